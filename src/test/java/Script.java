import java.lang.reflect.InvocationTargetException;
import java.lang.reflect.Method;
import java.util.ArrayList;
import java.util.List;

/**
 * Runs calls that are written as lines, "take 0 1 = 0", on a new object and tells every answer that is not due.
 * "text h01;c = 5" puts a whole text, eight characters at a time; "x3 close = 0" makes a call several times with the
 * same answer; what stands behind "#" is a remark. A number with a 0 ahead is octal.
 */
final class Script {
    private static final Method[] METHODS = SandMandalas.class.getDeclaredMethods();

    private static int wrong = 0;
    private static int made = 0;

    private Script() {
    }

    static void run(String title, String... parts) {
        runOn(new SandMandalas(), title, parts);
    }

    static void runOn(SandMandalas mandala, String title, String... parts) {
        int row = 0;
        for (String line : linesOf(parts)) runLine(title + ", call " + ++row, mandala, line);
    }

    /** Makes the calls on a new object without looking at their answers. */
    static SandMandalas replayed(String... parts) {
        SandMandalas mandala = new SandMandalas();
        for (String line : linesOf(parts)) {
            String[] words = wordsOf(line);
            if (words[0].equals("text")) putText(mandala, words[1]);
            else for (int i = 0; i < timesOf(words); i++) call(mandala, words, firstOf(words));
        }
        return mandala;
    }

    /** The lines without remarks, and without those that are empty then. */
    static List<String> linesOf(String... parts) {
        List<String> lines = new ArrayList<>();
        for (String line : String.join("\n", parts).split("\n")) {
            String call = withoutRemark(line).trim();
            if (!call.isEmpty()) lines.add(call);
        }
        return lines;
    }

    /** The answer that a line says is due. */
    static long answerOf(String line) {
        return number(line.substring(equalsIn(line) + 3).trim());
    }

    static void due(String what, long got, long want) {
        made++;
        if (got == want) return;
        wrong++;
        System.out.println(what + " answered " + got + ", due is " + want);
    }

    static void finish() {
        System.out.println(made + " answers looked at, " + wrong + " not as due");
        if (wrong != 0 || made == 0) System.exit(1);
    }

    static void putText(SandMandalas mandala, String text) {
        for (int from = 0; from < text.length(); from += 8) {
            mandala.put(packed(text.substring(from, Math.min(text.length(), from + 8))));
        }
    }

    static long packed(String text) {
        long characters = 0;
        for (int i = 0; i < text.length(); i++) characters = characters << 8 | text.charAt(i);
        return characters;
    }

    private static String withoutRemark(String line) {
        int remark = line.indexOf('#');
        return remark < 0 ? line : line.substring(0, remark);
    }

    private static void runLine(String title, SandMandalas mandala, String line) {
        long want = answerOf(line);
        String[] words = wordsOf(line);
        if (words[0].equals("text")) {
            putText(mandala, words[1]);
            due(title + ": " + line, mandala.count(10), want);
            return;
        }
        for (int i = 0; i < timesOf(words); i++) due(title + ": " + line, call(mandala, words, firstOf(words)), want);
    }

    private static int equalsIn(String line) {
        int equals = line.lastIndexOf(" = ");
        if (equals < 0) throw new IllegalStateException("no answer in: " + line);
        return equals;
    }

    private static String[] wordsOf(String line) {
        return line.substring(0, equalsIn(line)).trim().split(" +");
    }

    private static int firstOf(String[] words) {
        return words[0].matches("x[0-9]+") ? 1 : 0;
    }

    private static int timesOf(String[] words) {
        return firstOf(words) == 1 ? Integer.parseInt(words[0].substring(1)) : 1;
    }

    private static long call(SandMandalas mandala, String[] words, int first) {
        for (Method method : METHODS) {
            Class<?>[] kinds = method.getParameterTypes();
            if (!method.getName().equals(words[first]) || kinds.length != words.length - first - 1) continue;
            Object[] arguments = new Object[kinds.length];
            for (int i = 0; i < kinds.length; i++) {
                long value = number(words[first + 1 + i]);
                if (kinds[i] == long.class) arguments[i] = value;
                else arguments[i] = (int) value;
            }
            return invoke(method, mandala, arguments);
        }
        throw new IllegalStateException("no such call: " + String.join(" ", words));
    }

    private static long invoke(Method method, SandMandalas mandala, Object[] arguments) {
        try {
            return (Integer) method.invoke(mandala, arguments);
        } catch (IllegalAccessException | InvocationTargetException e) {
            throw new IllegalStateException(method.getName() + " failed", e);
        }
    }

    private static long number(String word) {
        switch (word) {
            case "NO_SUCH": return SandMandalas.NO_SUCH;
            case "BAD_VALUE": return SandMandalas.BAD_VALUE;
            case "BAD_TEXT": return SandMandalas.BAD_TEXT;
            case "TOO_MANY": return SandMandalas.TOO_MANY;
            case "NOT_POSSIBLE": return SandMandalas.NOT_POSSIBLE;
            case "NONE": return SandMandalas.NONE;
            case "LEAST": return Integer.MIN_VALUE;
            case "MOST": return Integer.MAX_VALUE;
            default: return Long.decode(word);
        }
    }
}
