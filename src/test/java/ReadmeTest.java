import java.io.IOException;
import java.lang.reflect.Field;
import java.lang.reflect.Method;
import java.lang.reflect.Modifier;
import java.nio.file.Files;
import java.nio.file.Path;
import java.util.ArrayList;
import java.util.List;
import java.util.regex.Matcher;
import java.util.regex.Pattern;
import java.util.stream.Collectors;
import java.util.stream.Stream;

/** README.md: the program answers what is told there of each call, and no call and no test is left out. */
public final class ReadmeTest {
    private static final Path README = Path.of("README.md");
    private static final Path TESTS = Path.of("src/test/java");
    private static final Pattern CALL = Pattern.compile("mandala\\.(\\w+)\\((.*?)\\);(?: *// (-?\\d+)\\b.*)?");

    public static void main(String[] args) throws IOException {
        String text = Files.readString(README);
        answersAreAsTold(text);
        everyCallIsNamed(text);
        everyTestIsNamed(text);
        Script.finish();
    }

    private static void answersAreAsTold(String text) {
        List<String> script = new ArrayList<>();
        for (String line : text.split("\n")) {
            Matcher call = CALL.matcher(line);
            if (!call.matches()) continue;
            Script.due("README: an answer is told in " + line, call.group(3) == null ? 0 : 1, 1);
            if (call.group(3) != null) script.add(call.group(1) + plain(call.group(2)) + " = " + call.group(3));
        }
        Script.due("README: there are calls with answers", script.isEmpty() ? 0 : 1, 1);
        Script.run("README", script.toArray(new String[0]));
    }

    /** Arguments as a Script has them, each with a blank ahead. */
    private static String plain(String arguments) {
        StringBuilder plain = new StringBuilder();
        for (String argument : arguments.split(",")) {
            String word = argument.trim();
            if (word.isEmpty()) continue;
            plain.append(' ').append(word.startsWith("SandMandalas.") ? constant(word) : word.replaceAll("[_L]", ""));
        }
        return plain.toString();
    }

    private static String constant(String word) {
        try {
            Field field = SandMandalas.class.getField(word.substring("SandMandalas.".length()));
            return String.valueOf(field.getInt(null));
        } catch (ReflectiveOperationException e) {
            throw new IllegalStateException("no such constant: " + word, e);
        }
    }

    private static void everyCallIsNamed(String text) {
        for (Method method : SandMandalas.class.getDeclaredMethods()) {
            if (!Modifier.isPublic(method.getModifiers())) continue;
            Script.due("README names " + method.getName(), text.contains("`" + method.getName() + "`") ? 1 : 0, 1);
        }
    }

    private static void everyTestIsNamed(String text) throws IOException {
        try (Stream<Path> files = Files.list(TESTS)) {
            for (Path file : files.collect(Collectors.toList())) {
                String name = file.getFileName().toString();
                if (!name.endsWith("Test.java")) continue;
                String test = name.substring(0, name.length() - ".java".length());
                Script.due("README names " + test, text.contains("`" + test + "`") ? 1 : 0, 1);
            }
        }
    }
}
