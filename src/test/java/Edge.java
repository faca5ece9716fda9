import java.util.HashMap;
import java.util.Map;

/** Cases at a boundary: what a refused call answers, and that nothing is changed by it. */
final class Edge {
    private static final Map<String, String> PICTURES = new HashMap<>();

    private Edge() {
    }

    /** Each line is called by itself on a new object behind the beginning: an error is due, and nothing changes. */
    static void refused(String sentence, String beginning, String lines) {
        for (String line : Script.linesOf(lines)) {
            boolean error = Script.answerOf(line) < 0 && Script.answerOf(line) != SandMandalas.NONE;
            Script.due(sentence + ": an error is due in " + line, error ? 1 : 0, 1);
            unmoved(sentence, beginning, line);
        }
    }

    /** Each line is called by itself on a new object behind the beginning: it answers as due, and nothing changes. */
    static void unchanged(String sentence, String beginning, String lines) {
        for (String line : Script.linesOf(lines)) unmoved(sentence, beginning, line);
    }

    private static void unmoved(String sentence, String beginning, String line) {
        if (!PICTURES.containsKey(beginning)) {
            Script.run(sentence + ", beginning", beginning);
            PICTURES.put(beginning, Picture.of(beginning));
        }
        Script.runOn(Script.replayed(beginning), sentence, line);
        boolean same = Picture.of(beginning, line).equals(PICTURES.get(beginning));
        Script.due(sentence + ": " + line + " changes nothing", same ? 1 : 0, 1);
    }
}
