import java.util.ArrayList;
import java.util.Arrays;
import java.util.List;
import java.util.Random;

/**
 * Runs of random calls, always the same ones, on an object and on the model: every answer must agree. The
 * questions at the end of a run go beyond the 512 calls that are promised an answer; the class answers on.
 */
public final class ModelTest {
    private static final int RUNS = 400;
    private static final int TEXTS = 4000;
    private static final int CALLS = 512;
    private static final int LONG_RUNS = 20;
    private static final int LONG_CALLS = 6000;
    private static final String[] QUESTIONS = {"gantryCount", "tagCount", "classOf", "routeLinks", "routePrice",
        "routeGantry", "passageCount", "passageGantry", "passageTime", "passageTag", "passagePlate", "passageAxles",
        "votes", "exceptions", "passageState", "tripOf", "openPassages", "passagesToReview", "previewTrips",
        "previewTotal", "tripCount", "tripAmount", "tripClass", "tripPassages", "tripState", "invoiceOf",
        "invoiceCount", "invoiceTag", "invoicePlate", "invoiceTotal", "balance", "outstanding"};
    private static final int[] ODD = {-1, 0, 1, 2, 3, 4, 9, 10, 11, 12, 39, 40, 79, 80, 99, 100, 101, 9999, 10000,
        99999, 100000, 100001, Integer.MAX_VALUE, Integer.MIN_VALUE};

    private final Random random;
    private final FreeFlowToll object = new FreeFlowToll();
    private final Model model = new Model();
    private final List<String> calls = new ArrayList<>();
    private final boolean crowded;
    private final int hurry;
    private int time = 0;

    private ModelTest(int seed) {
        random = new Random(seed);
        crowded = seed % 4 == 0;
        hurry = crowded ? 14 : 1 + seed % 9;
    }

    public static void main(String[] args) {
        for (int seed = 0; seed < RUNS; seed++) {
            if (!new ModelTest(seed).run()) {
                System.exit(1);
            }
        }
        for (int seed = 0; seed < TEXTS; seed++) {
            if (!new ModelTest(seed).runTexts()) {
                System.exit(1);
            }
        }
        for (int seed = 0; seed < LONG_RUNS; seed++) {
            if (!new ModelTest(seed).runLong()) {
                System.exit(1);
            }
        }
        System.out.println("ModelTest: " + RUNS + " runs and " + TEXTS + " of texts alone agree with the model, "
                + LONG_RUNS + " long runs are sound");
    }

    private boolean run() {
        boolean agreed = load();
        for (int n = 0; agreed && n < 9 && object.gantryCount() == 0; n++) {
            agreed = load();
        }
        while (agreed && calls.size() < CALLS) {
            int n = random.nextInt(1000);
            if (n == 0) {
                agreed = load();
            } else if (n < 30) {
                agreed = agree("undo");
            } else if (n < 40) {
                agreed = agree(random.nextInt(3) > 0 ? "saveSnapshot" : "restoreSnapshot", pick(2));
            } else if (n < (crowded ? 700 : 500)) {
                agreed = agree(randomChange());
            } else {
                agreed = agree(randomQuestion());
            }
        }
        for (int n = 0; agreed && n < 12; n++) {
            agreed = askEverything() && agree("undo");
        }
        return agreed && askEverything();
    }

    private boolean runTexts() {
        boolean agreed = true;
        for (int n = 0; agreed && n < 3; n++) {
            agreed = load();
        }
        return agreed && askEverything();
    }

    /** After 512 calls the answers are free, but no call may fail by itself. */
    private boolean runLong() {
        boolean sound = true;
        for (int n = 0; sound && n < LONG_CALLS; n++) {
            int kind = random.nextInt(1000);
            if (kind < 20 && object.gantryCount() == 0 || kind == 0) {
                String text = randomText();
                sound = sound(call("parse", Check.appendText(object, text)));
                time = 0;
            } else if (kind < 30) {
                sound = sound(call(random.nextInt(3) == 0 ? "restoreSnapshot" : "saveSnapshot", pick(2)));
            } else if (kind < 60) {
                sound = sound(call("undo"));
            } else {
                sound = sound(kind < 700 ? randomChange() : randomQuestion());
            }
        }
        return sound;
    }

    private boolean sound(Object[] call) {
        int[] a = (int[]) call[1];
        String got = answer(() -> callObject((String) call[0], a));
        boolean sound = !got.startsWith("throws.")
                || got.matches("throws.java.lang.(IllegalArgument|IllegalState|IndexOutOfBounds)Exception");
        if (!sound) {
            System.out.println("a long run: " + call[0] + " " + Arrays.toString(a) + " " + got);
        }
        return sound;
    }

    // ---- calls

    private boolean agree(Object[] call) {
        return agree((String) call[0], (int[]) call[1]);
    }

    private boolean agree(String call, int... a) {
        StringBuilder row = new StringBuilder(call);
        for (int argument : a) {
            row.append(' ').append(argument);
        }
        calls.add(row.toString());
        String got = answer(() -> callObject(call, a));
        String due = answer(() -> model.ask(call, a));
        if (got.equals(due)) {
            return true;
        }
        calls.forEach(System.out::println);
        System.out.println("answered " + got + ", due is " + due);
        return false;
    }

    private static String answer(Check.Call call) {
        try {
            return Long.toString(call.run());
        } catch (RuntimeException e) {
            return "throws." + e.getClass().getName();
        }
    }

    private int callObject(String call, int... a) {
        FreeFlowToll x = object;
        return switch (call) {
            case "append" -> x.append(a[0], a[1], a[2], a[3], a[4]);
            case "parse" -> x.parse(a[0]);
            case "gantryCount" -> x.gantryCount();
            case "tagCount" -> x.tagCount();
            case "classOf" -> x.classOf(a[0]);
            case "routeLinks" -> x.routeLinks(a[0], a[1], a[2]);
            case "routePrice" -> x.routePrice(a[0], a[1], a[2]);
            case "routeGantry" -> x.routeGantry(a[0], a[1], a[2], a[3]);
            case "passageCount" -> x.passageCount();
            case "passageGantry" -> x.passageGantry(a[0]);
            case "passageTime" -> x.passageTime(a[0]);
            case "passageTag" -> x.passageTag(a[0]);
            case "passagePlate" -> x.passagePlate(a[0]);
            case "passageAxles" -> x.passageAxles(a[0]);
            case "votes" -> x.votes(a[0], a[1]);
            case "exceptions" -> x.exceptions(a[0]);
            case "passageState" -> x.passageState(a[0]);
            case "tripOf" -> x.tripOf(a[0]);
            case "openPassages" -> x.openPassages();
            case "passagesToReview" -> x.passagesToReview();
            default -> callBills(call, a);
        };
    }

    private int callBills(String call, int... a) {
        FreeFlowToll x = object;
        return switch (call) {
            case "previewTrips" -> x.previewTrips(a[0]);
            case "previewTotal" -> x.previewTotal(a[0]);
            case "tripCount" -> x.tripCount();
            case "tripAmount" -> x.tripAmount(a[0]);
            case "tripClass" -> x.tripClass(a[0]);
            case "tripPassages" -> x.tripPassages(a[0]);
            case "tripState" -> x.tripState(a[0]);
            case "invoiceOf" -> x.invoiceOf(a[0]);
            case "invoiceCount" -> x.invoiceCount();
            case "invoiceTag" -> x.invoiceTag(a[0]);
            case "invoicePlate" -> x.invoicePlate(a[0]);
            case "invoiceTotal" -> x.invoiceTotal(a[0]);
            case "balance" -> x.balance(a[0]);
            case "outstanding" -> x.outstanding();
            case "readTag" -> x.readTag(a[0], a[1], a[2], a[3]);
            case "readPlate" -> x.readPlate(a[0], a[1], a[2], a[3], a[4]);
            case "readAxles" -> x.readAxles(a[0], a[1], a[2], a[3]);
            case "assignPlate" -> x.assignPlate(a[0], a[1]);
            case "assignAxles" -> x.assignAxles(a[0], a[1]);
            case "dismiss" -> x.dismiss(a[0]);
            case "bill" -> x.bill(a[0]);
            case "pay" -> x.pay(a[0], a[1]);
            case "dispute" -> x.dispute(a[0]);
            case "resolve" -> x.resolve(a[0], a[1] == 1);
            case "undo" -> x.undo();
            case "saveSnapshot" -> x.saveSnapshot(a[0]) ? 1 : 0;
            case "restoreSnapshot" -> x.restoreSnapshot(a[0]) ? 1 : 0;
            default -> throw new AssertionError(call);
        };
    }

    // ---- arguments

    private int pick(int count) {
        return random.nextInt(40) == 0 ? ODD[random.nextInt(ODD.length)] : random.nextInt(Math.max(1, count));
    }

    private int pick(int low, int high) {
        return random.nextInt(40) == 0 ? ODD[random.nextInt(ODD.length)] : low + random.nextInt(high - low + 1);
    }

    private int plate() {
        return crowded && random.nextInt(3) > 0 ? 200 + random.nextInt(90) : pick(1, 8) * 11;
    }

    private int nextTime() {
        if (random.nextInt(50) == 0) {
            return new int[] {-1, 0, 100000, Integer.MIN_VALUE, Integer.MAX_VALUE}[random.nextInt(5)];
        }
        // Once in a while the last minutes come, after which no reading can be earlier.
        time = Math.min(99999, time + (random.nextInt(700) == 0 ? 99990 : random.nextInt(hurry + 1)));
        return random.nextInt(30) == 0 ? time - 1 - random.nextInt(20) : time;
    }

    private static Object[] call(String name, int... a) {
        return new Object[] {name, a};
    }

    private Object[] randomChange() {
        int gantry = pick(Math.max(2, object.gantryCount()));
        int lane = pick(0, random.nextInt(2) == 0 ? 0 : 3);
        int passage = random.nextInt(3) == 0 ? pick(object.passageCount()) : object.passageCount() - 1 - pick(4);
        return switch (random.nextInt(crowded ? 22 : 28)) {
            case 0, 1, 2, 3 -> call("readTag", gantry, lane, nextTime(), pick(Math.max(1, object.tagCount())));
            case 4, 5, 6, 7, 8, 9, 10, 11 -> call("readPlate", gantry, lane, nextTime(), plate(), pick(20, 100));
            case 12, 13, 14, 15 -> call("readAxles", gantry, lane, nextTime(), pick(2, 9));
            case 16, 17 -> call("assignPlate", passage, plate());
            case 18 -> call("assignAxles", passage, pick(2, 9));
            case 19 -> random.nextInt(4) == 0 ? call("dismiss", passage) : call("assignPlate", passage, plate());
            case 20 -> call("bill", random.nextInt(2) == 0 ? pick(0, 99999) : Math.max(0, time - random.nextInt(20)));
            case 21, 22 -> call("pay", pick(object.invoiceCount()), pick(1, 500));
            case 23, 24, 25 -> call("dispute", pick(object.tripCount()));
            default -> call("resolve", pick(object.tripCount()), random.nextInt(2));
        };
    }

    private Object[] randomQuestion() {
        return question(QUESTIONS[random.nextInt(QUESTIONS.length)]);
    }

    private Object[] question(String name) {
        int gantries = Math.max(1, object.gantryCount());
        return switch (name) {
            case "classOf" -> call(name, pick(2, 9));
            case "routeLinks", "routePrice" -> call(name, pick(gantries), pick(gantries), pick(0, 60));
            case "routeGantry" -> call(name, pick(gantries), pick(gantries), pick(0, 40), pick(-1, 4));
            case "votes" -> call(name, pick(object.passageCount()), plate());
            case "previewTrips", "previewTotal" -> call(name, random.nextInt(2) == 0 ? pick(0, 99999) : time);
            case "gantryCount", "tagCount", "passageCount", "openPassages", "passagesToReview", "tripCount",
                "invoiceCount", "outstanding" -> call(name);
            default -> call(name, pick(name.startsWith("passage") || name.equals("exceptions")
                    || name.equals("tripOf") ? object.passageCount() : name.startsWith("trip")
                    || name.equals("invoiceOf") ? object.tripCount() : object.invoiceCount()));
        };
    }

    private boolean askEverything() {
        boolean agreed = true;
        for (String name : QUESTIONS) {
            int count = name.startsWith("passage") || name.equals("exceptions") || name.equals("tripOf")
                    ? object.passageCount() : Math.max(object.tripCount(), object.invoiceCount());
            Object[] call = question(name);
            int[] a = (int[]) call[1];
            agreed = agreed && agree(call);
            boolean ofOne = a.length == 1 && !name.startsWith("preview") && !name.equals("classOf");
            for (int n = 0; agreed && ofOne && n <= count; n++) {
                agreed = agree(name, n);
            }
        }
        for (int n = 0; agreed && n < 8 * object.passageCount(); n++) {
            agreed = agree("votes", n / 8, 11 * (1 + n % 8));
        }
        return agreed;
    }

    // ---- networks

    private boolean load() {
        String text = randomText();
        boolean agreed = true;
        for (int at = 0; agreed && at < text.length(); at += 20) {
            int[] words = new int[5];
            for (int i = 0; i < 20; i++) {
                int sign = at + i < text.length() ? text.charAt(at + i) : random.nextInt(256);
                words[i / 4] = words[i / 4] << 8 | sign;
            }
            agreed = agree("append", words);
        }
        time = 0;
        if (random.nextInt(30) == 0) {
            agreed = agreed && agree("parse", pick(1000));
        }
        return agreed && agree("parse", random.nextInt(30) == 0 ? pick(900) : text.length());
    }

    private String randomText() {
        int gantries = 2 + random.nextInt(random.nextInt(3) == 0 ? 9 : 3);
        StringBuilder s = new StringBuilder("gantries ").append(gantries).append(';');
        int statements = random.nextInt(random.nextInt(6) == 0 ? 60 : 22);
        int axles = 1;
        for (int n = 0; n < statements && s.length() < 870; n++) {
            int kind = random.nextInt(20);
            if (kind < 11) {
                int from = random.nextInt(gantries);
                int to = (from + 1 + random.nextInt(gantries - 1)) % gantries;
                if (s.indexOf("link " + from + " " + to) < 0) {
                    s.append("link ").append(from).append(' ').append(to).append(' ').append(1 + random.nextInt(14));
                    s.append(' ').append(1 + random.nextInt(random.nextInt(2) == 0 ? 4 : 300)).append(';');
                }
            } else if (kind < 13 && axles < 9) {
                axles += 1 + random.nextInt(Math.min(3, 9 - axles));
                s.append("class ").append(axles).append(' ').append(1 + random.nextInt(300)).append(';');
            } else if (kind < 17) {
                s.append("tag ").append(11 * (1 + random.nextInt(20))).append(' ').append(2 + random.nextInt(8));
                s.append(";");
            } else {
                String word = kind == 17 ? "window" : kind == 18 ? "confidence" : "fee";
                if (s.indexOf(word) < 0 || random.nextInt(10) == 0) {
                    s.append(word).append(random.nextInt(2) == 0 ? " " : "\n");
                    s.append(1 + random.nextInt(9)).append(';');
                }
            }
        }
        return random.nextInt(4) == 0 ? damaged(s) : withoutRepeatedTags(s.toString());
    }

    private static String withoutRepeatedTags(String text) {
        StringBuilder s = new StringBuilder();
        int tags = 0;
        for (String statement : text.split("(?<=;)")) {
            boolean tag = statement.startsWith("tag");
            boolean again = tag && s.indexOf(statement.substring(0, statement.lastIndexOf(' ') + 1)) >= 0;
            if (!again && !(tag && tags == 12)) {
                s.append(statement);
                tags += tag ? 1 : 0;
            }
        }
        return s.toString();
    }

    private String damaged(StringBuilder s) {
        for (int n = random.nextInt(3); n >= 0 && s.length() > 0; n--) {
            int at = random.nextInt(s.length());
            String signs = "0123456789;; \nabcdefgilnkstw?A" + (char) 0 + (char) 200;
            char sign = signs.charAt(random.nextInt(signs.length()));
            switch (random.nextInt(3)) {
                case 0 -> s.setCharAt(at, sign);
                case 1 -> s.insert(at, sign);
                default -> s.deleteCharAt(at);
            }
        }
        return s.toString();
    }
}
