import java.io.IOException;
import java.lang.reflect.Method;
import java.lang.reflect.Modifier;
import java.nio.file.Files;
import java.nio.file.Path;
import java.util.List;
import java.util.regex.Matcher;
import java.util.regex.Pattern;

/** What README.md shows must be so: its network, its way to append a text, and its calls with their answers. */
public final class ReadmeTest {
    private static final Pattern CALL = Pattern.compile("toll\\.(\\w+)\\((.*?)\\);\\s*// (-?\\d+|true|false)\\b.*");

    public static void main(String[] args) throws IOException, ReflectiveOperationException {
        List<String> page = Files.readAllLines(Path.of("README.md"));
        network(page);
        calls(page);
        tests(page);
        Check.end("ReadmeTest");
    }

    private static void network(List<String> page) {
        StringBuilder text = new StringBuilder();
        int line = page.indexOf("    gantries 3;");
        Check.due("the page shows a network", line >= 0, true);
        while (line >= 0 && line < page.size() && page.get(line).startsWith("    ")) {
            text.append(page.get(line).substring(4)).append('\n');
            line++;
        }
        FreeFlowToll toll = new FreeFlowToll();
        Check.due("the page's network", parseText(toll, text.toString()), 2);
        Check.due("its gantries", toll.gantryCount(), 3);
        Check.due("its tags", toll.tagCount(), 1);
        Check.due("its class", toll.classOf(3), 0);
        Check.due("a text that does not fill its last twenty bytes", parseText(toll, "gantries 2;x"), Check.error(11, 1));
        StringBuilder code = new StringBuilder();
        for (String shown : page) {
            code.append(shown.trim());
        }
        Check.due("the page shows parseText as it is here", code.indexOf(PARSE_TEXT) >= 0, true);
    }

    private static final String PARSE_TEXT = "static int parseText(FreeFlowToll toll, String text) {"
            + "for (int at = 0; at < text.length(); at += 20) {"
            + "int[] words = new int[5];"
            + "for (int i = 0; i < 20; i++) {"
            + "int sign = at + i < text.length() ? text.charAt(at + i) : 0;"
            + "words[i / 4] = words[i / 4] << 8 | sign & 255;"
            + "}"
            + "toll.append(words[0], words[1], words[2], words[3], words[4]);"
            + "}"
            + "return toll.parse(text.length());"
            + "}";

    static int parseText(FreeFlowToll toll, String text) {
        for (int at = 0; at < text.length(); at += 20) {
            int[] words = new int[5];
            for (int i = 0; i < 20; i++) {
                int sign = at + i < text.length() ? text.charAt(at + i) : 0;
                words[i / 4] = words[i / 4] << 8 | sign & 255;
            }
            toll.append(words[0], words[1], words[2], words[3], words[4]);
        }
        return toll.parse(text.length());
    }

    private static void calls(List<String> page) throws ReflectiveOperationException {
        FreeFlowToll toll = new FreeFlowToll();
        int calls = 0;
        for (String line : page) {
            Matcher call = CALL.matcher(line);
            if (call.matches()) {
                Check.same(line, answer(toll, call.group(1), call.group(2)), call.group(3));
                calls++;
            }
        }
        Check.due("the calls of the page", calls, 23);
    }

    private static String answer(FreeFlowToll toll, String name, String list) throws ReflectiveOperationException {
        String[] words = list.isEmpty() ? new String[0] : list.split(", ");
        Object[] values = new Object[words.length];
        for (int i = 0; i < words.length; i++) {
            boolean truth = words[i].equals("true") || words[i].equals("false");
            values[i] = truth ? (Object) Boolean.valueOf(words[i]) : (Object) Long.decode(words[i]).intValue();
        }
        for (Method method : FreeFlowToll.class.getMethods()) {
            if (method.getName().equals(name) && method.getParameterCount() == values.length) {
                return String.valueOf(method.invoke(toll, values));
            }
        }
        return "no such call";
    }

    /** Every test of the project, and every call of the class, has its place on the page. */
    private static void tests(List<String> page) throws IOException {
        String all = String.join("\n", page);
        try (var files = Files.list(Path.of("src/test/java"))) {
            for (Path file : (Iterable<Path>) files::iterator) {
                String name = file.getFileName().toString();
                if (name.endsWith("Test.java")) {
                    String row = "| " + name.substring(0, name.length() - 5) + " |";
                    Check.due("the page tells of " + name, all.contains(row), true);
                }
            }
        }
        for (Method method : FreeFlowToll.class.getDeclaredMethods()) {
            if (Modifier.isPublic(method.getModifiers())) {
                Check.due("the page tells of " + method.getName(), all.contains("`" + method.getName() + "`"), true);
            }
        }
    }
}
