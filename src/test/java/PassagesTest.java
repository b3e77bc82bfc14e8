/** Promises 10 to 21 (what is asked of passages) and 36 to 41 (readings and review). */
public final class PassagesTest {
    private static final String NETWORK = "gantries 3;link 0 1 10 100;class 3 100;class 5 200;"
            + "tag 11 3;tag 22 5;tag 33 2;window 2;confidence 50;";
    private static final int[] FAR = {Integer.MIN_VALUE, Integer.MAX_VALUE};

    public static void main(String[] args) {
        simplePassage();
        joining();
        joiningTags();
        joiningClosed();
        windowZero();
        plates();
        fourPlates();
        axles();
        vehicleExceptions();
        plateExceptions();
        classExceptions();
        withoutClasses();
        openAndReview();
        noSuchPassage();
        wrongReadings();
        timesNeverDecrease();
        eightyPassages();
        assignments();
        dismissals();
        notOpen();
        Check.end("PassagesTest");
    }

    private static void simplePassage() {
        FreeFlowToll x = Check.with(NETWORK);
        Check.due("36 readTag", x.readTag(2, 3, 40, 1), 0);
        Check.due("37 readPlate", x.readPlate(1, 0, 41, 77, 60), 1);
        Check.due("38 readAxles", x.readAxles(0, 1, 42, 4), 2);
        Check.due("10 passageCount", x.passageCount(), 3);
        int[] gantries = {2, 1, 0};
        int[] tags = {1, -1, -1};
        int[] plates = {-1, 77, -1};
        int[] axles = {-1, -1, 4};
        for (int p = 0; p < 3; p++) {
            Check.due("11 passageGantry(" + p + ")", x.passageGantry(p), gantries[p]);
            Check.due("12 passageTime(" + p + ")", x.passageTime(p), 40 + p);
            Check.due("13 passageTag(" + p + ")", x.passageTag(p), tags[p]);
            Check.due("14 passagePlate(" + p + ")", x.passagePlate(p), plates[p]);
            Check.due("15 passageAxles(" + p + ")", x.passageAxles(p), axles[p]);
            Check.due("18 passageState(" + p + ")", x.passageState(p), 0);
            Check.due("19 tripOf(" + p + ")", x.tripOf(p), -1);
        }
    }

    private static void joining() {
        FreeFlowToll x = Check.with(NETWORK);
        Check.due("37 begins", x.readPlate(0, 0, 10, 1, 1), 0);
        Check.due("37 another lane", x.readPlate(0, 1, 10, 1, 1), 1);
        Check.due("37 another gantry", x.readPlate(1, 0, 10, 1, 1), 2);
        Check.due("38 joins in the window", x.readAxles(0, 0, 12, 2), 0);
        Check.due("12 the time is that of the first reading", x.passageTime(0), 10);
        Check.due("38 out of the window", x.readAxles(0, 0, 13, 2), 3);
        Check.due("37 joins the latest passage", x.readPlate(0, 0, 13, 1, 1), 3);
        Check.due("36 a tag joins", x.readTag(0, 0, 15, 2), 3);
        Check.due("37 out of the window of the other lane", x.readPlate(0, 1, 15, 1, 1), 4);
        Check.due("36 a tag begins", x.readTag(0, 3, 15, 0), 5);
        Check.due("37 a plate joins a tag", x.readPlate(0, 3, 17, 4, 4), 5);
        Check.due("37 lane 2", x.readPlate(0, 2, 17, 4, 4), 6);
        Check.due("10 passageCount", x.passageCount(), 7);
    }

    private static void joiningTags() {
        FreeFlowToll x = Check.with(NETWORK);
        Check.due("36 begins", x.readTag(0, 0, 10, 0), 0);
        Check.due("36 the same tag joins", x.readTag(0, 0, 11, 0), 0);
        Check.due("36 another tag begins", x.readTag(0, 0, 11, 1), 1);
        Check.due("36 only the latest passage counts", x.readTag(0, 0, 11, 0), 2);
        Check.due("37 a plate joins the latest", x.readPlate(0, 0, 12, 11, 90), 2);
        Check.due("36 the same tag out of the window", x.readTag(0, 0, 14, 0), 3);
        Check.due("13 passageTag(1)", x.passageTag(1), 1);
        Check.due("13 passageTag(2)", x.passageTag(2), 0);
        Check.due("38 axles first", x.readAxles(1, 0, 14, 5), 4);
        Check.due("36 a tag joins axles", x.readTag(1, 0, 15, 2), 4);
        Check.due("13 passageTag(4)", x.passageTag(4), 2);
    }

    private static void joiningClosed() {
        FreeFlowToll x = Check.with(NETWORK);
        x.readTag(0, 0, 10, 0);
        x.dismiss(0);
        Check.due("36 a dismissed passage is not joined", x.readTag(0, 0, 10, 0), 1);
        x.bill(10);
        Check.due("37 a billed passage is not joined", x.readPlate(0, 0, 10, 5, 5), 2);
        x.readTag(1, 0, 10, 0);
        x.readTag(1, 0, 10, 1);
        x.dismiss(4);
        Check.due("38 an earlier open passage is not joined", x.readAxles(1, 0, 10, 2), 5);
    }

    private static void windowZero() {
        FreeFlowToll x = Check.with("gantries 2;window 0;");
        Check.due("38 window 0, begins", x.readAxles(0, 0, 5, 2), 0);
        Check.due("38 window 0, joins", x.readAxles(0, 0, 5, 2), 0);
        Check.due("38 window 0, begins again", x.readAxles(0, 0, 6, 2), 1);
        FreeFlowToll y = Check.with("gantries 2;window 10;");
        Check.due("38 window 10, begins", y.readAxles(0, 0, 99980, 2), 0);
        Check.due("38 window 10, joins", y.readAxles(0, 0, 99990, 2), 0);
        Check.due("38 window 10, begins again", y.readAxles(0, 0, 99991, 2), 1);
        Check.due("38 the last minute", y.readAxles(0, 0, 99999, 2), 1);
        FreeFlowToll z = Check.with("gantries 2;");
        Check.due("38 window 1, begins", z.readAxles(1, 3, 0, 9), 0);
        Check.due("38 window 1, joins", z.readAxles(1, 3, 1, 9), 0);
        Check.due("38 window 1, begins again", z.readAxles(1, 3, 2, 9), 1);
    }

    private static void plates() {
        FreeFlowToll x = Check.with(NETWORK);
        x.readPlate(0, 0, 1, 8, 49);
        Check.due("14 under the sum of confidence", x.passagePlate(0), -1);
        Check.due("16 votes(0, 8)", x.votes(0, 8), 49);
        x.readPlate(0, 0, 1, 8, 1);
        Check.due("14 at the sum of confidence", x.passagePlate(0), 8);
        Check.due("16 votes(0, 8)", x.votes(0, 8), 50);
        x.readPlate(0, 0, 1, 9, 50);
        Check.due("14 of equals the first", x.passagePlate(0), 8);
        x.readPlate(0, 0, 2, 9, 1);
        Check.due("14 the greatest sum", x.passagePlate(0), 9);
        x.readPlate(0, 0, 2, 8, 1);
        Check.due("14 of equals the first again", x.passagePlate(0), 8);
        Check.due("16 votes(0, 9)", x.votes(0, 9), 51);
        for (int plate : new int[] {7, 0, -1, 10000, Integer.MIN_VALUE, Integer.MAX_VALUE}) {
            Check.due("16 votes(0, " + plate + ")", x.votes(0, plate), 0);
        }
        FreeFlowToll y = Check.with("gantries 2;confidence 300;");
        for (int n = 0; n < 3; n++) {
            Check.due("14 before the third reading", n == 0 ? -1 : y.passagePlate(0), -1);
            y.readPlate(0, 0, 1, 9999, 100);
        }
        Check.due("14 three readings of 100", y.passagePlate(0), 9999);
        FreeFlowToll z = Check.with("gantries 2;");
        z.readPlate(0, 0, 1, 1, 59);
        Check.due("14 without the statement, 59", z.passagePlate(0), -1);
        z.readPlate(0, 0, 1, 1, 1);
        Check.due("14 without the statement, 60", z.passagePlate(0), 1);
    }

    private static void fourPlates() {
        FreeFlowToll x = Check.with(NETWORK);
        for (int plate = 1; plate <= 4; plate++) {
            x.readPlate(0, 0, 1, plate, 10 * plate);
        }
        Check.due("37 the fifth plate joins", x.readPlate(0, 0, 3, 5, 100), 0);
        Check.due("16 the fifth plate is not counted", x.votes(0, 5), 0);
        Check.due("14 the fifth plate is not chosen", x.passagePlate(0), -1);
        Check.due("16 the fourth plate is counted", x.votes(0, 4), 40);
        x.readPlate(0, 0, 3, 4, 10);
        Check.due("14 the fourth plate is chosen", x.passagePlate(0), 4);
        x.readPlate(0, 0, 3, 1, 90);
        Check.due("14 the first plate is chosen", x.passagePlate(0), 1);
        Check.due("37 a new passage", x.readPlate(0, 0, 4, 5, 100), 1);
        Check.due("16 the fifth plate counts in a new passage", x.votes(1, 5), 100);
        Check.due("16 the first plate does not", x.votes(1, 1), 0);
        Check.due("16 a plate of the next passage", x.votes(0, 5), 0);

        FreeFlowToll y = Check.with(NETWORK);
        y.readPlate(0, 0, 1, 1, 10);
        y.readAxles(0, 1, 1, 4);
        for (int plate = 2; plate <= 5; plate++) {
            y.readPlate(0, 0, 1, plate, 90);
        }
        Check.due("16 the fifth plate does not count for the next passage", y.votes(1, 5), 0);
        Check.due("14 the next passage has no plate", y.passagePlate(1), -1);
    }

    private static void axles() {
        FreeFlowToll x = Check.with(NETWORK);
        x.readTag(0, 0, 1, 0);
        Check.due("15 unknown", x.passageAxles(0), -1);
        x.readAxles(0, 0, 1, 9);
        Check.due("15 one reading", x.passageAxles(0), 9);
        x.readAxles(0, 0, 1, 2);
        Check.due("15 of equals the greatest", x.passageAxles(0), 9);
        x.readAxles(0, 0, 1, 2);
        Check.due("15 most often", x.passageAxles(0), 2);
        x.readAxles(0, 0, 1, 6);
        x.readAxles(0, 0, 1, 6);
        Check.due("15 of equals the greatest", x.passageAxles(0), 6);
        x.readAxles(0, 1, 1, 3);
        Check.due("15 another passage", x.passageAxles(1), 3);
    }

    private static void vehicleExceptions() {
        FreeFlowToll x = Check.with(NETWORK);
        x.readAxles(0, 0, 1, 9);
        Check.due("17 no vehicle", x.exceptions(0), 1);
        x.readPlate(0, 0, 1, 7, 40);
        Check.due("17 no vehicle yet", x.exceptions(0), 1);
        x.readPlate(0, 0, 1, 7, 40);
        Check.due("17 a plate without a tag has no class to compare", x.exceptions(0), 0);
        x.readTag(0, 0, 1, 0);
        Check.due("17 another plate and another class", x.exceptions(0), 6);
    }

    private static void plateExceptions() {
        FreeFlowToll x = Check.with(NETWORK);
        x.readTag(0, 0, 1, 1);
        Check.due("17 a tag alone", x.exceptions(0), 0);
        x.readPlate(0, 0, 1, 11, 49);
        Check.due("17 a plate that is not chosen", x.exceptions(0), 0);
        x.readPlate(0, 0, 1, 11, 1);
        Check.due("17 the plate of another tag", x.exceptions(0), 2);
        x.readPlate(0, 0, 1, 22, 60);
        Check.due("17 the plate of the tag", x.exceptions(0), 0);
        x.readPlate(0, 1, 1, 22, 60);
        Check.due("17 the plate of a tag that was not read", x.exceptions(1), 0);
        Check.due("13 the tag was not read", x.passageTag(1), -1);
    }

    private static void classExceptions() {
        FreeFlowToll x = Check.with(NETWORK);
        x.readTag(0, 0, 1, 0);
        Check.due("40 the axles of the tag", x.assignAxles(0, 3), 0);
        Check.due("40 other axles of the class", x.assignAxles(0, 4), 0);
        Check.due("40 another class", x.assignAxles(0, 5), 4);
        Check.due("40 no class", x.assignAxles(0, 2), 4);
        x.readPlate(0, 1, 1, 22, 60);
        x.readAxles(0, 1, 1, 4);
        Check.due("17 a tag known by its plate", x.exceptions(1), 4);
        x.readAxles(0, 1, 1, 9);
        Check.due("17 a tag known by its plate", x.exceptions(1), 0);
        x.readTag(0, 2, 1, 2);
        Check.due("40 no class on both sides", x.assignAxles(2, 2), 0);
        Check.due("40 a class, but none for the tag", x.assignAxles(2, 3), 4);
        x.readPlate(0, 3, 1, 44, 60);
        Check.due("40 the vehicle is a plate", x.assignAxles(3, 9), 0);
    }

    private static void withoutClasses() {
        FreeFlowToll x = Check.with("gantries 2;tag 5 2;");
        x.readTag(0, 0, 1, 0);
        Check.due("40 without classes", x.assignAxles(0, 9), 0);
    }

    private static void openAndReview() {
        FreeFlowToll x = Check.with(NETWORK);
        x.readTag(0, 0, 1, 0);
        x.readAxles(0, 1, 1, 4);
        x.readPlate(0, 2, 1, 5, 10);
        Check.due("21 the passages without a vehicle", x.passagesToReview(), 2);
        x.assignPlate(0, 12);
        Check.due("21 the first passage counts", x.passagesToReview(), 3);
        x.undo();
        x.readTag(0, 3, 1, 1);
        x.assignPlate(3, 9);
        Check.due("20 openPassages", x.openPassages(), 4);
        Check.due("21 passagesToReview", x.passagesToReview(), 3);
        Check.due("41 dismiss", x.dismiss(1), 3);
        Check.due("20 openPassages", x.openPassages(), 3);
        Check.due("21 a dismissed passage is not to be reviewed", x.passagesToReview(), 2);
        Check.due("17 a dismissed passage keeps its exceptions", x.exceptions(1), 1);
        x.bill(1);
        Check.due("20 openPassages", x.openPassages(), 1);
        Check.due("21 a billed passage is not to be reviewed", x.passagesToReview(), 1);
        Check.due("17 a billed passage keeps its exceptions", x.exceptions(3), 2);
        Check.due("18 billed", x.passageState(3), 1);
        Check.due("18 dismissed", x.passageState(1), 2);
        Check.due("18 open", x.passageState(2), 0);
        Check.due("19 tripOf(0)", x.tripOf(0), 0);
        Check.due("19 tripOf(1)", x.tripOf(1), -1);
        Check.due("19 tripOf(2)", x.tripOf(2), -1);
        Check.due("19 tripOf(3)", x.tripOf(3), 1);
    }

    private static void noSuchPassage() {
        FreeFlowToll x = Check.with(NETWORK);
        x.readTag(0, 0, 1, 0);
        x.readTag(0, 1, 1, 0);
        for (int p : new int[] {-1, 2, 79, 80, FAR[0], FAR[1]}) {
            Check.badIndex("11 passageGantry(" + p + ")", () -> x.passageGantry(p));
            Check.badIndex("12 passageTime(" + p + ")", () -> x.passageTime(p));
            Check.badIndex("13 passageTag(" + p + ")", () -> x.passageTag(p));
            Check.badIndex("14 passagePlate(" + p + ")", () -> x.passagePlate(p));
            Check.badIndex("15 passageAxles(" + p + ")", () -> x.passageAxles(p));
            Check.badIndex("16 votes(" + p + ", 5)", () -> x.votes(p, 5));
            Check.badIndex("16 votes(" + p + ", -5)", () -> x.votes(p, -5));
            Check.badIndex("17 exceptions(" + p + ")", () -> x.exceptions(p));
            Check.badIndex("18 passageState(" + p + ")", () -> x.passageState(p));
            Check.badIndex("19 tripOf(" + p + ")", () -> x.tripOf(p));
            Check.badIndex("39 assignPlate(" + p + ", 5)", () -> x.assignPlate(p, 5));
            Check.badIndex("39 assignPlate(" + p + ", 0)", () -> x.assignPlate(p, 0));
            Check.badIndex("40 assignAxles(" + p + ", 5)", () -> x.assignAxles(p, 5));
            Check.badIndex("40 assignAxles(" + p + ", 0)", () -> x.assignAxles(p, 0));
            Check.badIndex("41 dismiss(" + p + ")", () -> x.dismiss(p));
        }
        Check.due("what throws is no change", Check.undoAll(x), 2);
    }

    /** A reading's first three arguments, each wrong once. */
    private static void wrongReadings() {
        FreeFlowToll x = Check.with(NETWORK);
        x.readTag(0, 0, 5, 0);
        int[][] wrong = {{-1, 0, 6}, {3, 0, 6}, {0, -1, 6}, {0, 4, 6}, {0, 0, -1}, {0, 0, 100000}, {0, 0, 4},
            {FAR[0], 0, 6}, {FAR[1], 0, 6}, {0, FAR[0], 6}, {0, FAR[1], 6}, {0, 0, FAR[0]}, {0, 0, FAR[1]}};
        for (int[] w : wrong) {
            String what = "(" + w[0] + ", " + w[1] + ", " + w[2] + ", ..)";
            Check.badArgument("36 readTag" + what, () -> x.readTag(w[0], w[1], w[2], 0));
            Check.badArgument("37 readPlate" + what, () -> x.readPlate(w[0], w[1], w[2], 5, 5));
            Check.badArgument("38 readAxles" + what, () -> x.readAxles(w[0], w[1], w[2], 5));
        }
        for (int tag : new int[] {-1, 3, 12, FAR[0], FAR[1]}) {
            Check.badArgument("36 readTag of " + tag, () -> x.readTag(0, 0, 6, tag));
        }
        for (int plate : new int[] {0, -1, 10000, FAR[0], FAR[1]}) {
            Check.badArgument("37 readPlate of " + plate, () -> x.readPlate(0, 0, 6, plate, 5));
        }
        for (int confidence : new int[] {0, -1, 101, FAR[0], FAR[1]}) {
            Check.badArgument("37 with confidence " + confidence, () -> x.readPlate(0, 0, 6, 5, confidence));
        }
        for (int axles : new int[] {1, 10, 0, -1, FAR[0], FAR[1]}) {
            Check.badArgument("38 readAxles of " + axles, () -> x.readAxles(0, 0, 6, axles));
        }
        Check.due("37 plate 1, confidence 1", x.readPlate(0, 0, 5, 1, 1), 0);
        Check.due("37 plate 9999, confidence 100", x.readPlate(0, 0, 5, 9999, 100), 0);
        Check.due("38 2 axles", x.readAxles(0, 0, 5, 2), 0);
        Check.due("38 9 axles", x.readAxles(0, 0, 5, 9), 0);
        Check.due("36 the last gantry, lane and tag", x.readTag(2, 3, 5, 2), 1);
        Check.due("what throws is no change", Check.undoAll(x), 6);
        FreeFlowToll empty = new FreeFlowToll();
        Check.badArgument("36 without gantries", () -> empty.readTag(0, 0, 0, 0));
        Check.badArgument("37 without gantries", () -> empty.readPlate(0, 0, 0, 5, 5));
        Check.badArgument("38 without gantries", () -> empty.readAxles(0, 0, 0, 5));
    }

    private static void timesNeverDecrease() {
        FreeFlowToll x = Check.with(NETWORK);
        Check.due("38 time 0", x.readAxles(0, 0, 0, 2), 0);
        Check.due("38 time 2", x.readAxles(0, 0, 2, 2), 0);
        Check.badArgument("38 earlier than a joined reading", () -> x.readAxles(1, 0, 1, 2));
        Check.due("38 the same time", x.readAxles(1, 0, 2, 2), 1);
        x.dismiss(1);
        Check.badArgument("36 earlier than a dismissed passage", () -> x.readTag(1, 0, 1, 0));
        x.undo();
        x.undo();
        x.undo();
        Check.due("46 undo takes the time back", x.readAxles(1, 0, 1, 2), 1);
        Check.due("38 the last minute", x.readAxles(1, 0, 99999, 2), 2);
        Check.badArgument("37 earlier than the last minute", () -> x.readPlate(1, 0, 99998, 2, 2));
        Check.due("37 the last minute again", x.readPlate(1, 1, 99999, 2, 2), 3);
    }

    private static void eightyPassages() {
        FreeFlowToll x = Check.with(NETWORK);
        for (int n = 0; n < 80; n++) {
            Check.due("36 passage " + n, x.readTag(n % 3, 0, 10 * n, 0), n);
        }
        Check.due("10 passageCount", x.passageCount(), 80);
        Check.badState("36 an 81st passage", () -> x.readTag(0, 0, 790, 0));
        Check.badState("36 an 81st passage by another tag", () -> x.readTag(1, 0, 791, 1));
        Check.badState("37 an 81st passage", () -> x.readPlate(2, 0, 800, 5, 5));
        Check.badState("38 an 81st passage", () -> x.readAxles(2, 1, 790, 5));
        Check.badArgument("36 the arguments come first", () -> x.readTag(2, 0, 800, 3));
        Check.badArgument("37 the arguments come first", () -> x.readPlate(2, 0, 800, 5, 0));
        Check.badArgument("38 the arguments come first", () -> x.readAxles(2, 0, 800, 1));
        Check.badArgument("38 the time comes first", () -> x.readAxles(2, 0, 789, 2));
        Check.due("38 joining goes on", x.readAxles(1, 0, 792, 5), 79);
        Check.due("37 joining goes on", x.readPlate(1, 0, 792, 5, 90), 79);
        Check.due("36 joining goes on", x.readTag(1, 0, 792, 0), 79);
        Check.badState("38 a refused reading leaves the time", () -> x.readAxles(1, 0, 793, 5));
        Check.due("38 a refused reading leaves the time", x.readAxles(1, 0, 792, 5), 79);
        Check.due("15 the last passage", x.passageAxles(79), 5);
        Check.due("17 the last passage", x.exceptions(79), 6);
        Check.due("46 undo", x.undo(), 9);
        x.dismiss(79);
        Check.badState("38 dismissed passages count", () -> x.readAxles(1, 0, 792, 5));
    }

    private static void assignments() {
        FreeFlowToll x = Check.with(NETWORK);
        x.readAxles(0, 0, 1, 4);
        Check.due("39 a plate without a tag", x.assignPlate(0, 9), 0);
        Check.due("14 the plate by hand", x.passagePlate(0), 9);
        Check.due("39 the plate of a tag", x.assignPlate(0, 22), 4);
        x.readPlate(0, 0, 1, 7, 100);
        Check.due("14 the plate by hand stays", x.passagePlate(0), 22);
        Check.due("16 the plate by hand is no vote", x.votes(0, 22), 0);
        Check.due("40 the axles by hand", x.assignAxles(0, 5), 0);
        x.readAxles(0, 0, 1, 4);
        x.readAxles(0, 0, 1, 4);
        Check.due("15 the axles by hand stay", x.passageAxles(0), 5);
        Check.due("40 in place of the ones before", x.assignAxles(0, 2), 4);
        Check.due("15 in place of the ones before", x.passageAxles(0), 2);
        x.readTag(0, 0, 1, 1);
        Check.due("39 not the plate of the tag", x.assignPlate(0, 9999), 6);
        Check.due("39 plate 1", x.assignPlate(0, 1), 6);
        Check.due("40 9 axles", x.assignAxles(0, 9), 2);
        for (int plate : new int[] {0, -1, 10000, FAR[0], FAR[1]}) {
            Check.badArgument("39 plate " + plate, () -> x.assignPlate(0, plate));
        }
        for (int axles : new int[] {1, 10, 0, -1, FAR[0], FAR[1]}) {
            Check.badArgument("40 axles " + axles, () -> x.assignAxles(0, axles));
        }
    }

    private static void dismissals() {
        FreeFlowToll x = Check.with(NETWORK);
        x.readTag(0, 0, 1, 0);
        x.readTag(0, 1, 1, 0);
        x.readTag(0, 2, 1, 0);
        Check.due("41 dismiss(1)", x.dismiss(1), 2);
        Check.due("41 dismiss(0)", x.dismiss(0), 1);
        Check.due("18 passageState(0)", x.passageState(0), 2);
        Check.due("42 a dismissed passage is never billed", x.bill(99999), 1);
        Check.due("27 a dismissed passage is never billed", x.tripPassages(0), 1);
        Check.due("18 passageState(0)", x.passageState(0), 2);
        Check.due("18 passageState(2)", x.passageState(2), 1);
    }

    private static void notOpen() {
        FreeFlowToll x = Check.with(NETWORK);
        x.readTag(0, 0, 1, 0);
        x.readTag(0, 1, 1, 0);
        x.dismiss(0);
        x.bill(1);
        for (int passage = 0; passage < 2; passage++) {
            int p = passage;
            Check.badState("39 assignPlate(" + p + ", 5)", () -> x.assignPlate(p, 5));
            Check.badArgument("39 the plate comes first", () -> x.assignPlate(p, 0));
            Check.badState("40 assignAxles(" + p + ", 5)", () -> x.assignAxles(p, 5));
            Check.badArgument("40 the axles come first", () -> x.assignAxles(p, 10));
            Check.badState("41 dismiss(" + p + ")", () -> x.dismiss(p));
        }
        Check.due("what throws is no change", Check.undoAll(x), 4);
    }
}
