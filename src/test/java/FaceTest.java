import java.io.IOException;
import java.lang.management.ManagementFactory;
import java.lang.reflect.Constructor;
import java.lang.reflect.Field;
import java.lang.reflect.Method;
import java.lang.reflect.Modifier;
import java.nio.file.Files;
import java.nio.file.Path;
import java.util.Arrays;
import java.util.HashSet;
import java.util.List;
import java.util.Map;
import java.util.Set;
import java.util.TreeMap;
import java.util.TreeSet;
import java.util.regex.Matcher;
import java.util.regex.Pattern;

/** The public face of the document, and the rules of LANGUAGE.md that a test can look at. */
public final class FaceTest {
    private static final String[] FACE = {
        "int append(int,int,int,int,int)", "int parse(int)", "int gantryCount()", "int tagCount()",
        "int classOf(int)", "int routeLinks(int,int,int)", "int routePrice(int,int,int)",
        "int routeGantry(int,int,int,int)", "int passageCount()", "int passageGantry(int)",
        "int passageTime(int)", "int passageTag(int)", "int passagePlate(int)", "int passageAxles(int)",
        "int votes(int,int)", "int exceptions(int)", "int passageState(int)", "int tripOf(int)",
        "int openPassages()", "int passagesToReview()", "int previewTrips(int)", "int previewTotal(int)",
        "int tripCount()", "int tripAmount(int)", "int tripClass(int)", "int tripPassages(int)",
        "int tripState(int)", "int invoiceOf(int)", "int invoiceCount()", "int invoiceTag(int)",
        "int invoicePlate(int)", "int invoiceTotal(int)", "int balance(int)", "int outstanding()",
        "int readTag(int,int,int,int)", "int readPlate(int,int,int,int,int)", "int readAxles(int,int,int,int)",
        "int assignPlate(int,int)", "int assignAxles(int,int)", "int dismiss(int)", "int bill(int)",
        "int pay(int,int)", "int dispute(int)", "int resolve(int,boolean)", "int undo()",
        "boolean saveSnapshot(int)", "boolean restoreSnapshot(int)"};

    public static void main(String[] args) throws IOException {
        face();
        insideNames();
        fieldsAndParameters();
        words();
        shortMethods();
        depthOfCalls();
        room();
        Check.end("FaceTest");
    }

    private static String signature(Method m) {
        StringBuilder s = new StringBuilder(m.getReturnType().getName()).append(' ').append(m.getName()).append('(');
        for (int i = 0; i < m.getParameterCount(); i++) {
            s.append(i > 0 ? "," : "").append(m.getParameterTypes()[i].getName());
        }
        return s.append(')').toString();
    }

    private static void face() {
        Class<?> c = FreeFlowToll.class;
        Check.due("public and final", c.getModifiers(), Modifier.PUBLIC | Modifier.FINAL);
        Set<String> methods = new TreeSet<>();
        for (Method m : c.getDeclaredMethods()) {
            if (!Modifier.isPrivate(m.getModifiers())) {
                methods.add(signature(m));
                Check.due(m.getName() + " is public", m.getModifiers(), Modifier.PUBLIC);
            }
        }
        Check.same("the methods", methods.toString(), new TreeSet<>(Arrays.asList(FACE)).toString());
        Constructor<?>[] constructors = c.getDeclaredConstructors();
        Check.due("constructors", constructors.length, 1);
        Check.due("its parameters", constructors[0].getParameterCount(), 0);
        Check.due("it is public", constructors[0].getModifiers(), Modifier.PUBLIC);
        for (Field f : c.getDeclaredFields()) {
            if (!Modifier.isPrivate(f.getModifiers())) {
                Check.same("a visible field", f.toString(), "public static final int FreeFlowToll.NONE");
            }
        }
        for (Class<?> inside : c.getDeclaredClasses()) {
            Check.due(inside.getName() + " is static", Modifier.isStatic(inside.getModifiers()), true);
            Check.due(inside.getName() + " is not public", Modifier.isPublic(inside.getModifiers()), false);
        }
        Check.due("at most twelve classes", c.getDeclaredClasses().length < 12, true);
    }

    private static void insideNames() {
        Set<String> names = new HashSet<>();
        for (Method m : FreeFlowToll.class.getDeclaredMethods()) {
            if (Modifier.isPublic(m.getModifiers())) {
                names.add(m.getName());
            }
        }
        for (Class<?> c : FreeFlowToll.class.getDeclaredClasses()) {
            for (Method m : c.getDeclaredMethods()) {
                Check.due(c.getName() + "." + m.getName() + " bears a public name", names.contains(m.getName()), false);
            }
        }
        for (Method m : FreeFlowToll.class.getDeclaredMethods()) {
            boolean hidden = Modifier.isPrivate(m.getModifiers());
            Check.due(m.getName() + " bears a public name", hidden && names.contains(m.getName()), false);
        }
    }

    private static void fieldsAndParameters() {
        fieldsAndParameters(FreeFlowToll.class);
        for (Class<?> c : FreeFlowToll.class.getDeclaredClasses()) {
            fieldsAndParameters(c);
        }
    }

    private static void fieldsAndParameters(Class<?> c) {
        int fields = 0;
        for (Field f : c.getDeclaredFields()) {
            boolean constant = Modifier.isStatic(f.getModifiers());
            fields += constant ? 0 : 1;
            Check.due(f + " is final", !constant || Modifier.isFinal(f.getModifiers()), true);
        }
        Check.due(c.getName() + " has at most twenty fields", fields <= 20, true);
        for (Method m : c.getDeclaredMethods()) {
            Check.due(m + " has at most seven parameters", m.getParameterCount() <= 7, true);
        }
    }

    private static List<String> source() throws IOException {
        return Files.readAllLines(Path.of("src/main/java/FreeFlowToll.java"));
    }

    private static void words() throws IOException {
        String text = String.join("\n", source()).replaceAll("(?s)/\\*.*?\\*/", "").replaceAll("//.*", "");
        String[] never = {"\\btry\\b", "\\bcatch\\b", "\\bfinally\\b", "\\bsynchronized\\b", "\\bassert\\b", "->", "::",
            "Exact\\(", "\\bpackage\\b", "\\bSystem\\.(?!arraycopy)", "static\\s*\\{", "\\bnew \\w+\\([^()]*\\)\\s*\\{",
            "\\bObject\\b", "\\binstanceof\\b", "\\[\\]\\["};
        for (String word : never) {
            Check.due("the source has " + word, Pattern.compile(word).matcher(text).find(), false);
        }
        Matcher imports = Pattern.compile("\\bimport ([^;]*);").matcher(text);
        while (imports.find()) {
            Check.same("an import", imports.group(1), "java.util.Arrays");
        }
        Matcher thrown = Pattern.compile("\\bthrow\\b(.*)").matcher(text);
        while (thrown.find()) {
            Check.due("throws" + thrown.group(1), thrown.group(1).matches(
                    " new (IllegalArgument|IllegalState|IndexOutOfBounds)Exception\\(\"[ -~]+\"\\);"), true);
        }
    }

    /** A method begins at an indented line that ends with a brace and ends at the brace of that indent. */
    private static void shortMethods() throws IOException {
        List<String> lines = source();
        Pattern head = Pattern.compile("( {4}| {8})(private|public) [^=]*\\(.*");
        for (int i = 0; i < lines.size(); i++) {
            Matcher m = head.matcher(lines.get(i));
            if (m.matches()) {
                int length = lines.subList(i, lines.size()).indexOf(m.group(1) + "}") + 1;
                Check.due("a short method: " + lines.get(i).trim(), length >= 2 && length <= 60, true);
            }
        }
    }

    /** Methods of one name count as one, and a call of its own name (from a whole to its parts) as one level more. */
    private static void depthOfCalls() throws IOException {
        List<String> lines = source();
        Pattern head = Pattern.compile("( {4}| {8})(?:private|public) (?:static )?(?:\\w+|int\\[\\]) (\\w+)\\(.*");
        Map<String, Set<String>> calls = new TreeMap<>();
        for (int i = 0; i < lines.size(); i++) {
            Matcher m = head.matcher(lines.get(i));
            if (m.matches()) {
                int length = lines.subList(i, lines.size()).indexOf(m.group(1) + "}");
                Set<String> called = calls.computeIfAbsent(m.group(2), name -> new TreeSet<>());
                Matcher c = Pattern.compile("\\b([a-z]\\w*)\\(").matcher(
                        String.join("\n", lines.subList(i + 1, i + length)));
                while (c.find()) {
                    called.add(c.group(1));
                }
            }
        }
        Check.due("the calls were found", calls.size() > 100 && calls.get("parse").contains("readText"), true);
        for (String name : calls.keySet()) {
            int depth = depth(name, calls, 0);
            Check.due(name + " goes " + depth + " deep", depth <= 8, true);
        }
    }

    private static int depth(String name, Map<String, Set<String>> calls, int above) {
        int below = 0;
        for (String called : calls.get(name)) {
            if (called.equals(name)) {
                below = Math.max(below, 1);
            } else if (calls.containsKey(called) && above < 20) {
                below = Math.max(below, depth(called, calls, above + 1));
            }
        }
        return 1 + below;
    }

    /** What a run makes: an object, and ten rows of history and two snapshots at most. */
    private static void room() {
        com.sun.management.ThreadMXBean threads = (com.sun.management.ThreadMXBean) ManagementFactory.getThreadMXBean();
        crowdedRun();
        long before = threads.getCurrentThreadAllocatedBytes();
        crowdedRun();
        long made = threads.getCurrentThreadAllocatedBytes() - before;
        Check.due("a run makes few bytes: " + made, made < 200_000, true);
        before = threads.getCurrentThreadAllocatedBytes();
        FreeFlowToll x = new FreeFlowToll();
        made = threads.getCurrentThreadAllocatedBytes() - before;
        Check.due("an object is small: " + made, made < 25_000 && x.gantryCount() == 0, true);
    }

    private static void crowdedRun() {
        FreeFlowToll x = new FreeFlowToll();
        x.append(1734438516, 1919509875, 540162924, 1768844064, 807416096);
        x.append(958411056, 809202785, 1730164021, 540162918, 1701126199);
        x.append(989855744, 0, 0, 0, 0);
        x.parse(41);
        for (int n = 0; n < 80; n++) {
            x.readTag(n % 2, 0, 10 * n, 0);
            x.readPlate(n % 2, 0, 10 * n, 5, 60);
            x.readAxles(n % 2, 0, 10 * n, 5);
            x.previewTotal(99999);
            x.saveSnapshot(n % 2);
        }
        for (int n = 0; n < 40; n++) {
            x.bill(20 * n + 10);
        }
    }
}
