import java.util.function.Supplier;

/**
 * The boundary cases of the section READINGS AND PASSAGES and of promises 10 to 21 and 36 to 41. Above
 * each test stand the words of the document that it is for.
 */
public final class BoundsOfReadingsTest {
    private static final String NETWORK = Bounds.NETWORK;

    public static void main(String[] args) {
        gantries();
        lanes();
        times();
        timesNeverDecrease();
        latestReading();
        tags();
        noTags();
        plates();
        confidences();
        axles();
        numberOfPassages();
        eightyPassages();
        argumentsComeFirst();
        joiningWhenFull();
        roomAfterUndo();
        timeOfPassage();
        latestPassage();
        sameGantryAndLane();
        openPassage();
        windowFromFirstReading();
        otherTag();
        tagJoins();
        statesOfPassages();
        sumsOfVotes();
        noVotes();
        fourPlates();
        fourPlatesOfEach();
        greatestSum();
        sumOfConfidence();
        plateByHand();
        axlesByHand();
        axlesMostOften();
        axlesUnknown();
        vehicles();
        exceptionOne();
        exceptionTwo();
        exceptionFour();
        sumsOfExceptions();
        noSuchPassage();
        nothingRead();
        countsOfPassages();
        passagesToReview();
        assignPlate();
        assignAxles();
        dismiss();
        reviewOrderOfChecks();
        Check.end("BoundsOfReadingsTest");
    }

    // ---- arguments of readings

    /** "gantry: a gantry" */
    private static void gantries() {
        Bounds.argument("readTag gantry", 0, 2, Bounds::busy, (x, gantry) -> x.readTag(gantry, 0, 41, 0));
        Bounds.argument("readPlate gantry", 0, 2, Bounds::busy, (x, gantry) -> x.readPlate(gantry, 0, 41, 5, 5));
        Bounds.argument("readAxles gantry", 0, 2, Bounds::busy, (x, gantry) -> x.readAxles(gantry, 0, 41, 5));
        FreeFlowToll x = Check.with("gantries 10;");
        Check.due("the last gantry of ten", x.readAxles(9, 3, 0, 5), 0);
        Check.due("passageGantry", x.passageGantry(0), 9);
        Check.dueThrow("gantry 10", IllegalArgumentException.class, () -> x.readAxles(10, 3, 0, 5));
    }

    /** "in one of its lanes 0 to 3"; "lane: 0 to 3" */
    private static void lanes() {
        Bounds.argument("readTag lane", 0, 3, Bounds::busy, (x, lane) -> x.readTag(0, lane, 41, 0));
        Bounds.argument("readPlate lane", 0, 3, Bounds::busy, (x, lane) -> x.readPlate(0, lane, 41, 5, 5));
        Bounds.argument("readAxles lane", 0, 3, Bounds::busy, (x, lane) -> x.readAxles(0, lane, 41, 5));
    }

    /** "at a time (a minute, 0 to 99999)"; "time: 0 to 99999" */
    private static void times() {
        Supplier<FreeFlowToll> made = () -> Check.with(NETWORK);
        Bounds.argument("readTag time", 0, 99999, made, (x, time) -> x.readTag(0, 0, time, 0));
        Bounds.argument("readPlate time", 0, 99999, made, (x, time) -> x.readPlate(0, 0, time, 5, 5));
        Bounds.argument("readAxles time", 0, 99999, made, (x, time) -> x.readAxles(0, 0, time, 5));
        FreeFlowToll x = made.get();
        x.readAxles(0, 0, 99999, 5);
        Check.due("passageTime", x.passageTime(0), 99999);
        Check.due("the last minute once more", x.readTag(1, 0, 99999, 0), 1);
    }

    /** "no reading can be earlier than the latest one"; "not less than the time of the latest reading" */
    private static void timesNeverDecrease() {
        Bounds.argument("readTag time", 41, 99999, Bounds::busy, (x, time) -> x.readTag(0, 0, time, 0));
        Bounds.argument("readPlate time", 41, 99999, Bounds::busy, (x, time) -> x.readPlate(0, 0, time, 5, 5));
        Bounds.argument("readAxles time", 41, 99999, Bounds::busy, (x, time) -> x.readAxles(0, 0, time, 5));
        for (int kind = 0; kind < 3; kind++) {
            int latest = kind;
            Bounds.argument("time after reading " + kind, 70, 99999, () -> {
                FreeFlowToll x = Check.with(NETWORK);
                read(x, latest, 0, 70);
                return x;
            }, (x, time) -> read(x, (latest + 1) % 3, 1, time));
        }
    }

    private static int read(FreeFlowToll x, int kind, int gantry, int time) {
        return kind == 0 ? x.readTag(gantry, 0, time, 0)
                : kind == 1 ? x.readPlate(gantry, 0, time, 5, 5) : x.readAxles(gantry, 0, time, 5);
    }

    /** "the latest reading": also one that joined, one of a passage that is closed, and not one that was undone. */
    private static void latestReading() {
        FreeFlowToll x = Check.with(NETWORK);
        x.readTag(0, 0, 10, 0);
        x.readAxles(0, 0, 12, 3);
        Check.due("passageTime", x.passageTime(0), 10);
        Check.dueThrow("before a reading that joined", IllegalArgumentException.class, () -> x.readAxles(1, 0, 11, 3));
        x.dismiss(0);
        Check.dueThrow("after a dismissal", IllegalArgumentException.class, () -> x.readAxles(1, 0, 11, 3));
        x.undo();
        x.bill(12);
        Check.dueThrow("after billing", IllegalArgumentException.class, () -> x.readAxles(1, 0, 11, 3));
        x.undo();
        Check.due("two readings", x.undo(), 1);
        Check.dueThrow("before the one that is left", IllegalArgumentException.class, () -> x.readAxles(1, 0, 9, 3));
        Check.due("after undo", x.readAxles(1, 0, 10, 3), 1);
        Check.dueThrow("a refused time", IllegalArgumentException.class, () -> x.readAxles(1, 0, 100000, 3));
        Check.dueThrow("a refused lane", IllegalArgumentException.class, () -> x.readAxles(1, 4, 99999, 3));
        Check.due("a refused reading is not the latest", x.readAxles(1, 0, 10, 3), 1);
    }

    /** "tag: a tag"; "there is no such gantry or tag" */
    private static void tags() {
        Bounds.argument("readTag tag", 0, 1, Bounds::busy, (x, tag) -> x.readTag(0, 0, 41, tag));
        FreeFlowToll x = Check.with(NETWORK);
        x.readTag(0, 0, 0, 0);
        x.readTag(0, 1, 0, 1);
        Check.due("passageTag(0)", x.passageTag(0), 0);
        Check.due("passageTag(1)", x.passageTag(1), 1);
    }

    /** A network without tags has no tag 0. */
    private static void noTags() {
        Supplier<FreeFlowToll> made = () -> Check.with("gantries 2;");
        Bounds.badArgument("readTag of tag 0", made, x -> x.readTag(0, 0, 0, 0));
        Bounds.badArgument("readTag of tag -1", made, x -> x.readTag(0, 0, 0, -1));
    }

    /** "of a plate (1 to 9999"; "plate: 1 to 9999" */
    private static void plates() {
        Bounds.argument("readPlate plate", 1, 9999, Bounds::busy, (x, plate) -> x.readPlate(0, 0, 41, plate, 5));
        for (int plate : new int[] {1, 9999}) {
            FreeFlowToll x = Check.with(NETWORK);
            x.readPlate(0, 0, 0, plate, 100);
            Check.due("passagePlate", x.passagePlate(0), plate);
            Check.due("votes", x.votes(0, plate), 100);
        }
    }

    /** "with a confidence from 1 to 100)"; "confidence: 1 to 100" */
    private static void confidences() {
        Bounds.argument("readPlate confidence", 1, 100, Bounds::busy, (x, sum) -> x.readPlate(0, 0, 41, 5, sum));
        for (int confidence : new int[] {1, 100}) {
            FreeFlowToll x = Check.with(NETWORK);
            x.readPlate(0, 0, 0, 5, confidence);
            Check.due("votes", x.votes(0, 5), confidence);
        }
    }

    /** "or of axles (2 to 9)"; "axles: 2 to 9" */
    private static void axles() {
        Bounds.argument("readAxles axles", 2, 9, Bounds::busy, (x, axles) -> x.readAxles(0, 0, 41, axles));
        for (int axles = 2; axles <= 9; axles++) {
            FreeFlowToll x = Check.with(NETWORK);
            x.readAxles(0, 0, 0, axles);
            Check.due("passageAxles", x.passageAxles(0), axles);
        }
    }

    // ---- the number of passages

    /** "Passages are numbered from 0 in the order in which they begin" */
    private static void numberOfPassages() {
        FreeFlowToll x = Check.with(NETWORK);
        Check.due("the first", x.readAxles(2, 3, 5, 2), 0);
        Check.due("the second", x.readAxles(0, 0, 5, 2), 1);
        Check.due("the first once more", x.readAxles(2, 3, 6, 2), 0);
        Check.due("the third", x.readAxles(1, 1, 6, 2), 2);
        Check.due("passageGantry(0)", x.passageGantry(0), 2);
        Check.due("passageGantry(1)", x.passageGantry(1), 0);
        Check.due("passageGantry(2)", x.passageGantry(2), 1);
        x.undo();
        Check.due("the third again", x.readAxles(0, 1, 7, 2), 2);
        Check.due("passageGantry(2)", x.passageGantry(2), 0);
    }

    /** 80 passages, of which the last begins at gantry 1, lane 0, at time 790. */
    private static FreeFlowToll full() {
        return filled(80);
    }

    private static FreeFlowToll filled(int count) {
        FreeFlowToll x = Check.with(NETWORK);
        for (int n = 0; n < count; n++) {
            x.readAxles(n % 3, 0, 10 * n, 2 + n % 8);
        }
        return x;
    }

    /** "there are at most 80"; "if the reading would begin an 81st passage" */
    private static void eightyPassages() {
        for (int kind = 0; kind < 3; kind++) {
            int reading = kind;
            FreeFlowToll x = filled(78);
            Check.due("the 79th passage", read(x, reading, 0, 780), 78);
            Check.due("the 80th passage", read(x, reading, 1, 790), 79);
            Check.due("passageCount", x.passageCount(), 80);
            Bounds.badState("an 81st passage by reading " + kind, BoundsOfReadingsTest::full,
                    y -> read(y, reading, 0, 790));
            Bounds.badState("an 81st passage at the last minute", BoundsOfReadingsTest::full,
                    y -> read(y, reading, 1, 99999));
        }
        Bounds.badState("an 81st passage after the window", BoundsOfReadingsTest::full, x -> x.readAxles(1, 0, 793, 2));
        Bounds.badState("an 81st passage in another lane", BoundsOfReadingsTest::full, x -> x.readAxles(1, 1, 790, 2));
        Bounds.badState("an 81st passage by another tag", () -> {
            FreeFlowToll x = full();
            x.readTag(1, 0, 790, 0);
            return x;
        }, x -> x.readTag(1, 0, 790, 1));
        Bounds.badState("an 81st passage though the others are closed", () -> {
            FreeFlowToll x = full();
            x.dismiss(78);
            x.dismiss(79);
            return x;
        }, x -> x.readAxles(1, 0, 790, 2));
    }

    /** "(checked first)": a wrong argument of a reading that would also begin an 81st passage */
    private static void argumentsComeFirst() {
        Supplier<FreeFlowToll> made = BoundsOfReadingsTest::full;
        Bounds.argument("readTag tag", 0, 1, () -> filled(79), (x, tag) -> x.readTag(0, 1, 790, tag));
        Bounds.badArgument("readTag gantry", made, x -> x.readTag(3, 0, 800, 0));
        Bounds.badArgument("readTag lane", made, x -> x.readTag(0, 4, 800, 0));
        Bounds.badArgument("readTag time", made, x -> x.readTag(0, 0, 789, 0));
        Bounds.badArgument("readTag tag", made, x -> x.readTag(0, 0, 800, 2));
        Bounds.badArgument("readPlate gantry", made, x -> x.readPlate(-1, 0, 800, 5, 5));
        Bounds.badArgument("readPlate lane", made, x -> x.readPlate(0, -1, 800, 5, 5));
        Bounds.badArgument("readPlate time", made, x -> x.readPlate(0, 0, 100000, 5, 5));
        Bounds.badArgument("readPlate plate", made, x -> x.readPlate(0, 0, 800, 0, 5));
        Bounds.badArgument("readPlate confidence", made, x -> x.readPlate(0, 0, 800, 5, 101));
        Bounds.badArgument("readAxles gantry", made, x -> x.readAxles(3, 0, 800, 5));
        Bounds.badArgument("readAxles lane", made, x -> x.readAxles(0, 4, 800, 5));
        Bounds.badArgument("readAxles time", made, x -> x.readAxles(0, 0, 789, 5));
        Bounds.badArgument("readAxles axles", made, x -> x.readAxles(0, 0, 800, 10));
    }

    /** "if the reading would begin an 81st passage": one that joins does not. */
    private static void joiningWhenFull() {
        FreeFlowToll x = full();
        Check.due("axles join", x.readAxles(1, 0, 792, 9), 79);
        Check.due("a plate joins", x.readPlate(1, 0, 792, 5, 60), 79);
        Check.due("a tag joins", x.readTag(1, 0, 792, 1), 79);
        Check.due("passageCount", x.passageCount(), 80);
        Check.due("passageTag(79)", x.passageTag(79), 1);
        Check.due("passagePlate(79)", x.passagePlate(79), 5);
        Check.due("passageAxles(79)", x.passageAxles(79), 9);
        Check.due("passageTime(79)", x.passageTime(79), 790);
        Check.due("dismiss the last", x.dismiss(79), 79);
        Check.due("the 79th", x.passageState(78), 0);
    }

    /** An undone passage makes room again. */
    private static void roomAfterUndo() {
        FreeFlowToll x = full();
        Check.dueThrow("an 81st passage", IllegalStateException.class, () -> x.readTag(0, 0, 800, 0));
        Check.due("undo", x.undo(), 9);
        Check.due("passageCount", x.passageCount(), 79);
        Check.due("the 80th passage again", x.readTag(0, 0, 800, 0), 79);
        Check.due("passageAxles(79)", x.passageAxles(79), -1);
        Check.dueThrow("an 81st passage again", IllegalStateException.class, () -> x.readTag(0, 0, 803, 0));
    }

    // ---- joining

    /** "The time of a passage is that of its first reading." */
    private static void timeOfPassage() {
        FreeFlowToll x = Check.with(NETWORK);
        x.readPlate(0, 0, 7, 5, 5);
        Check.due("passageTime", x.passageTime(0), 7);
        x.readTag(0, 0, 8, 0);
        x.readAxles(0, 0, 9, 3);
        Check.due("passageTime", x.passageTime(0), 7);
        x.readAxles(0, 0, 10, 3);
        Check.due("passageTime of the next", x.passageTime(1), 10);
    }

    /** "A reading joins the latest passage at its gantry and lane"; "Otherwise it begins a new passage." */
    private static void latestPassage() {
        FreeFlowToll x = Check.with(NETWORK);
        Check.due("tag 0", x.readTag(0, 0, 10, 0), 0);
        Check.due("tag 1 begins", x.readTag(0, 0, 10, 1), 1);
        Check.due("tag 0 begins again", x.readTag(0, 0, 10, 0), 2);
        Check.due("axles join the latest", x.readAxles(0, 0, 10, 3), 2);
        x.dismiss(2);
        Check.due("the latest is closed, the earlier are open", x.readAxles(0, 0, 10, 3), 3);
        Check.due("a plate joins the new one", x.readPlate(0, 0, 12, 5, 5), 3);
    }

    /** "at its gantry and lane": others in between do not count. */
    private static void sameGantryAndLane() {
        FreeFlowToll x = Check.with("gantries 10;");
        int[][] places = {{0, 0}, {0, 1}, {1, 0}, {1, 2}, {2, 1}, {0, 3}, {3, 0}, {9, 3}, {9, 0}, {8, 3}};
        for (int n = 0; n < places.length; n++) {
            Check.due("begins", x.readAxles(places[n][0], places[n][1], 5, 2), n);
        }
        for (int n = places.length - 1; n >= 0; n--) {
            Check.due("joins", x.readAxles(places[n][0], places[n][1], 6, 2), n);
        }
        Check.due("passageCount", x.passageCount(), places.length);
    }

    /** "if this passage is open" */
    private static void openPassage() {
        FreeFlowToll x = Check.with(NETWORK);
        x.readTag(0, 0, 10, 0);
        x.dismiss(0);
        Check.due("not a dismissed one", x.readTag(0, 0, 10, 0), 1);
        x.bill(10);
        Check.due("not a billed one", x.readTag(0, 0, 10, 0), 2);
        x.undo();
        x.undo();
        Check.due("undone: open again", x.readPlate(0, 0, 10, 5, 5), 1);
        x.undo();
        x.undo();
        x.undo();
        Check.due("undone: open again", x.readPlate(0, 0, 10, 5, 5), 0);
    }

    /**
     * "the reading is at most the minutes of window later than the time of the passage": not than the one
     * before it.
     */
    private static void windowFromFirstReading() {
        for (int window : new int[] {0, 1, 2, 9, 10}) {
            FreeFlowToll x = Check.with("gantries 2;tag 5 2;window " + window + ";");
            int first = 99999 - 2 * window - 1;
            Check.due("begins", x.readTag(1, 2, first, 0), 0);
            Check.due("a tag in the window", x.readTag(1, 2, first + window, 0), 0);
            Check.due("a plate in the window", x.readPlate(1, 2, first + window, 5, 5), 0);
            Check.due("axles in the window", x.readAxles(1, 2, first + window, 5), 0);
            Check.due("a minute more", x.readTag(1, 2, first + window + 1, 0), 1);
            Check.due("a new window", x.readAxles(1, 2, first + 2 * window + 1, 5), 1);
        }
        FreeFlowToll x = Check.with("gantries 2;tag 5 2;window 1;");
        x.readTag(0, 0, 0, 0);
        Check.due("a minute later", x.readPlate(0, 0, 1, 5, 5), 0);
        Check.due("a minute after that", x.readPlate(0, 0, 2, 5, 5), 1);
    }

    /** "and it is not the reading of a tag while the passage has a reading of another tag" */
    private static void otherTag() {
        FreeFlowToll x = Check.with(NETWORK);
        Check.due("tag 1", x.readTag(0, 0, 10, 1), 0);
        Check.due("tag 1 again", x.readTag(0, 0, 10, 1), 0);
        Check.due("tag 0", x.readTag(0, 0, 10, 0), 1);
        Check.due("tag 0 again", x.readTag(0, 0, 12, 0), 1);
        Check.due("passageTag(0)", x.passageTag(0), 1);
        Check.due("passageTag(1)", x.passageTag(1), 0);
        Check.due("a plate of another tag joins", x.readPlate(0, 0, 12, 22, 60), 1);
        Check.due("it is no reading of a tag", x.readTag(0, 0, 12, 0), 1);
    }

    /** A tag joins a passage that has no tag yet, also one that has the plate of another tag. */
    private static void tagJoins() {
        FreeFlowToll x = Check.with(NETWORK);
        x.readPlate(0, 0, 10, 22, 60);
        Check.due("tag 0 joins plate 22", x.readTag(0, 0, 11, 0), 0);
        Check.due("passageTag", x.passageTag(0), 0);
        x.undo();
        Check.due("no tag", x.passageTag(0), -1);
        Check.due("tag 1 joins", x.readTag(0, 0, 11, 1), 0);
        x.readAxles(1, 0, 11, 5);
        x.assignPlate(1, 11);
        Check.due("tag 1 joins a plate by hand", x.readTag(1, 0, 11, 1), 1);
        Check.due("passageTag", x.passageTag(1), 1);
    }

    /** "The state of a passage is 0 (open), 1 (billed) or 2 (dismissed). New passages are open." */
    private static void statesOfPassages() {
        FreeFlowToll x = Check.with(NETWORK);
        x.readTag(0, 0, 10, 0);
        x.readTag(0, 1, 10, 0);
        x.readTag(0, 2, 11, 0);
        x.dismiss(0);
        x.bill(10);
        Check.due("dismissed", x.passageState(0), 2);
        Check.due("billed", x.passageState(1), 1);
        Check.due("open", x.passageState(2), 0);
        Check.due("tripOf a dismissed passage", x.tripOf(0), -1);
        Check.due("tripOf a billed passage", x.tripOf(1), 0);
        Check.due("tripOf an open passage", x.tripOf(2), -1);
    }

    // ---- votes, plates and axles

    /** "for each plate that was read in a passage, the confidences of all its readings are added up" */
    private static void sumsOfVotes() {
        FreeFlowToll x = Check.with(NETWORK);
        x.readPlate(0, 0, 10, 5, 100);
        x.readPlate(0, 1, 10, 5, 7);
        x.readPlate(0, 0, 11, 6, 30);
        x.readPlate(0, 0, 12, 5, 100);
        x.readPlate(0, 0, 12, 5, 1);
        Check.due("votes(0, 5)", x.votes(0, 5), 201);
        Check.due("votes(0, 6)", x.votes(0, 6), 30);
        Check.due("votes(1, 5)", x.votes(1, 5), 7);
        Check.due("votes(1, 6)", x.votes(1, 6), 0);
        FreeFlowToll y = Check.with(NETWORK);
        for (int n = 0; n < 400; n++) {
            y.readPlate(0, 0, 10, 9999, 100);
        }
        Check.due("400 readings", y.votes(0, 9999), 40000);
    }

    /** "0 if there are none" */
    private static void noVotes() {
        FreeFlowToll x = Check.with(NETWORK);
        x.readTag(0, 0, 10, 0);
        x.readPlate(0, 1, 10, 5, 50);
        x.assignPlate(0, 9);
        for (int plate : new int[] {0, 1, 4, 6, 9, 11, 9999, 10000, -1, Integer.MIN_VALUE, Integer.MAX_VALUE}) {
            Check.due("votes(0, " + plate + ")", x.votes(0, plate), 0);
            Check.due("votes(1, " + plate + ")", x.votes(1, plate), 0);
        }
    }

    /**
     * "At most 4 different plates are kept for a passage, the first ones that were read; readings of further
     * plates .."
     */
    private static void fourPlates() {
        FreeFlowToll x = Check.with(NETWORK);
        int[] plates = {40, 10, 30, 20};
        for (int n = 0; n < 4; n++) {
            Check.due("joins", x.readPlate(0, 0, 10, plates[n], 10 + n), 0);
        }
        Check.due("the fifth joins", x.readPlate(0, 0, 12, 50, 100), 0);
        Check.due("a later one joins", x.readPlate(0, 0, 12, 5, 100), 0);
        Check.due("the fifth again", x.readPlate(0, 0, 12, 50, 100), 0);
        Check.due("the fifth is not counted", x.votes(0, 50), 0);
        Check.due("a later one is not counted", x.votes(0, 5), 0);
        Check.due("and has no say", x.passagePlate(0), -1);
        for (int n = 0; n < 4; n++) {
            Check.due("the first ones are counted", x.votes(0, plates[n]), 10 + n);
            x.readPlate(0, 0, 12, plates[n], 40 + n);
            Check.due("and go on", x.votes(0, plates[n]), 50 + 2 * n);
            Check.due("and are chosen", x.passagePlate(0), plates[n]);
        }
        Check.due("the passage is still one", x.passageCount(), 1);
        Check.due("a fifth in the next passage", x.readPlate(0, 0, 13, 50, 100), 1);
        Check.due("it counts there", x.votes(1, 50), 100);

        FreeFlowToll y = Check.with(NETWORK);
        for (int plate = 1; plate <= 4; plate++) {
            y.readPlate(0, 0, 10, plate, 10);
        }
        y.undo();
        y.readPlate(0, 0, 10, 50, 60);
        Check.due("in place of one that was undone", y.votes(0, 50), 60);
        y.readPlate(0, 0, 10, 4, 60);
        Check.due("which is the fifth now", y.votes(0, 4), 0);
        y.readPlate(0, 0, 12, 4, 60);
        Check.due("a reading that is not counted is still the latest", Bounds.earliest(y), 12);
    }

    /** "At most 4 different plates are kept for a passage": for each passage, up to the last. */
    private static void fourPlatesOfEach() {
        FreeFlowToll x = Check.with(NETWORK);
        x.readPlate(0, 0, 10, 1, 10);
        x.readAxles(1, 0, 10, 2);
        for (int plate = 2; plate <= 6; plate++) {
            x.readPlate(0, 0, 10, plate, 10 * plate);
        }
        Check.due("votes(0, 4)", x.votes(0, 4), 40);
        Check.due("votes(0, 5)", x.votes(0, 5), 0);
        for (int plate = 0; plate <= 6; plate++) {
            Check.due("none for the next passage", x.votes(1, plate), 0);
        }
        Check.due("no plate", x.passagePlate(0), -1);
        Check.due("no plate", x.passagePlate(1), -1);
        x.readPlate(1, 0, 10, 7, 100);
        Check.due("the plate of the next passage", x.passagePlate(1), 7);
        Check.due("no plate", x.passagePlate(0), -1);
        FreeFlowToll y = Check.with(NETWORK);
        for (int n = 0; n < 80; n++) {
            y.readPlate(0, 0, 10 * n, 100 + n, 50);
            y.readPlate(0, 0, 10 * n, 200 + n, 50);
            y.readPlate(0, 0, 10 * n, 300 + n, 50);
            y.readPlate(0, 0, 10 * n, 400 + n, 51);
            Check.due("the fourth plate of passage " + n, y.passagePlate(n), 400 + n);
        }
        Check.due("votes(0, 400)", y.votes(0, 400), 51);
        Check.due("votes(79, 179)", y.votes(79, 179), 50);
        Check.due("votes(78, 179)", y.votes(78, 179), 0);
        Check.due("passagePlate(0)", y.passagePlate(0), 400);
        Check.due("passagePlate(78)", y.passagePlate(78), 478);
    }

    /** "the plate with the greatest sum, of equals the one that was read first" */
    private static void greatestSum() {
        FreeFlowToll x = Check.with(NETWORK);
        x.readPlate(0, 0, 10, 9, 50);
        x.readPlate(0, 0, 10, 5, 50);
        Check.due("of equals the first", x.passagePlate(0), 9);
        x.readPlate(0, 0, 10, 5, 1);
        Check.due("greater by one", x.passagePlate(0), 5);
        x.readPlate(0, 0, 10, 7, 51);
        Check.due("of equals the first", x.passagePlate(0), 5);
        x.readPlate(0, 0, 10, 9, 1);
        Check.due("the first to be read, not to reach the sum", x.passagePlate(0), 9);
        x.readPlate(0, 0, 10, 3, 51);
        Check.due("of four equals the first", x.passagePlate(0), 9);
        x.readPlate(0, 0, 10, 3, 1);
        Check.due("the last one", x.passagePlate(0), 3);
    }

    /** "if this sum is at least the sum of confidence; otherwise the passage has no plate" */
    private static void sumOfConfidence() {
        for (int sum : new int[] {2, 50, 100}) {
            FreeFlowToll x = Check.with("gantries 2;confidence " + sum + ";");
            x.readPlate(0, 0, 10, 5, sum - 1);
            Check.due("one less", x.passagePlate(0), -1);
            Check.due("no vehicle", x.exceptions(0), 1);
            x.readPlate(0, 0, 10, 5, 1);
            Check.due("just so", x.passagePlate(0), 5);
            Check.due("a vehicle", x.exceptions(0), 0);
            x.readPlate(0, 1, 10, 5, sum);
            Check.due("at once", x.passagePlate(1), 5);
        }
        FreeFlowToll x = Check.with("gantries 2;confidence 60;");
        x.readPlate(0, 0, 10, 5, 40);
        x.readPlate(0, 0, 10, 6, 40);
        Check.due("two sums are not added", x.passagePlate(0), -1);
    }

    /** "The plate of a passage is the one that was assigned by hand" */
    private static void plateByHand() {
        FreeFlowToll x = Check.with(NETWORK);
        x.readPlate(0, 0, 10, 5, 100);
        x.assignPlate(0, 9);
        Check.due("by hand", x.passagePlate(0), 9);
        x.readPlate(0, 0, 10, 5, 100);
        Check.due("also after more votes", x.passagePlate(0), 9);
        x.assignPlate(0, 44);
        Check.due("in place of one that was assigned before", x.passagePlate(0), 44);
        x.undo();
        Check.due("the one before", x.passagePlate(0), 9);
        x.undo();
        x.undo();
        Check.due("the votes again", x.passagePlate(0), 5);
        x.readAxles(0, 1, 10, 2);
        x.assignPlate(1, 1);
        Check.due("without any vote", x.passagePlate(1), 1);
    }

    /** "The axles of a passage are those that were assigned by hand" */
    private static void axlesByHand() {
        FreeFlowToll x = Check.with(NETWORK);
        x.readAxles(0, 0, 10, 9);
        x.assignAxles(0, 2);
        Check.due("by hand", x.passageAxles(0), 2);
        x.readAxles(0, 0, 10, 9);
        Check.due("also after more readings", x.passageAxles(0), 2);
        x.assignAxles(0, 3);
        Check.due("in place of those that were assigned before", x.passageAxles(0), 3);
        x.undo();
        Check.due("those before", x.passageAxles(0), 2);
        x.undo();
        x.undo();
        Check.due("the readings again", x.passageAxles(0), 9);
        x.readTag(0, 1, 10, 0);
        x.assignAxles(1, 9);
        Check.due("without any reading", x.passageAxles(1), 9);
    }

    /** "the number that was read most often, of equals the greatest" */
    private static void axlesMostOften() {
        FreeFlowToll x = Check.with(NETWORK);
        int[] read = {2, 9, 2, 3, 3, 9, 9, 3, 2, 2};
        int[] due = {2, 9, 2, 2, 3, 9, 9, 9, 9, 2};
        for (int n = 0; n < read.length; n++) {
            x.readAxles(0, 0, 10, read[n]);
            Check.due("passageAxles after " + (n + 1), x.passageAxles(0), due[n]);
        }
        FreeFlowToll y = Check.with(NETWORK);
        for (int axles = 9; axles >= 2; axles--) {
            y.readAxles(0, 0, 10, axles);
        }
        Check.due("of eight equals", y.passageAxles(0), 9);
    }

    /** "without readings they are unknown"; "NONE if they are unknown" */
    private static void axlesUnknown() {
        FreeFlowToll x = Check.with(NETWORK);
        x.readTag(0, 0, 10, 0);
        x.readPlate(0, 0, 10, 11, 60);
        Check.due("passageAxles", x.passageAxles(0), -1);
        x.readAxles(0, 0, 10, 2);
        x.undo();
        Check.due("unknown again", x.passageAxles(0), -1);
        Check.due("NONE if no tag was read", Bounds.busy().passageTag(4), -1);
        Check.due("NONE if it has no plate", Bounds.busy().passagePlate(3), -1);
    }

    // ---- vehicles and exceptions

    /**
     * "if a tag was read, this tag. Otherwise, if the passage has a plate: the tag with this plate, or [..]
     * the plate itself"
     */
    private static void vehicles() {
        FreeFlowToll x = Check.with(NETWORK);
        x.readTag(0, 0, 0, 0);
        x.readPlate(0, 0, 0, 22, 60);
        x.readPlate(0, 1, 0, 22, 60);
        x.readPlate(0, 2, 0, 99, 60);
        x.readPlate(0, 3, 0, 98, 49);
        Check.due("three vehicles", x.bill(0), 3);
        int[] tags = {0, 1, -1};
        int[] plates = {11, 22, 99};
        for (int i = 0; i < 3; i++) {
            Check.due("invoiceTag(" + i + ")", x.invoiceTag(i), tags[i]);
            Check.due("invoicePlate(" + i + ")", x.invoicePlate(i), plates[i]);
        }
        Check.due("no vehicle, not billed", x.passageState(3), 0);
    }

    /** "Otherwise the passage has no vehicle."; "1 if it has no vehicle" */
    private static void exceptionOne() {
        FreeFlowToll x = Check.with(NETWORK);
        x.readAxles(0, 0, 0, 9);
        Check.due("axles alone", x.exceptions(0), 1);
        x.readPlate(0, 0, 0, 99, 49);
        Check.due("a sum that is too small", x.exceptions(0), 1);
        x.readPlate(0, 0, 0, 99, 1);
        Check.due("a plate", x.exceptions(0), 0);
        x.readTag(0, 1, 0, 0);
        Check.due("a tag", x.exceptions(1), 0);
        x.readPlate(0, 2, 0, 5, 1);
        Check.due("by hand", x.assignPlate(2, 5), 0);
    }

    /** "2 if a tag was read and the passage has a plate that is not the plate of this tag" */
    private static void exceptionTwo() {
        FreeFlowToll x = Check.with(NETWORK);
        x.readTag(0, 0, 0, 0);
        Check.due("no plate", x.exceptions(0), 0);
        x.readPlate(0, 0, 0, 99, 49);
        Check.due("no plate yet", x.exceptions(0), 0);
        Check.due("the plate of the tag", x.assignPlate(0, 11), 0);
        Check.due("beside the plate of the tag", x.assignPlate(0, 12), 2);
        Check.due("the plate of another tag", x.assignPlate(0, 22), 2);
        Check.due("a plate without a tag", x.assignPlate(0, 9999), 2);
        x.readAxles(0, 1, 0, 3);
        Check.due("no tag was read", x.assignPlate(1, 99), 0);
        Check.due("no tag was read, the plate of a tag", x.assignPlate(1, 11), 0);
    }

    /**
     * "4 if its vehicle is a tag, its axles are known, and the class for them is not the class for the axles
     * of this tag .."
     */
    private static void exceptionFour() {
        FreeFlowToll x = Check.with("gantries 2;class 3 5;class 5 5;class 8 5;tag 11 5;tag 22 2;tag 33 9;");
        int[] five = {4, 4, 4, 0, 0, 0, 4, 4};
        int[] two = {0, 4, 4, 4, 4, 4, 4, 4};
        int[] nine = {4, 4, 4, 4, 4, 4, 0, 0};
        for (int tag = 0; tag < 3; tag++) {
            x.readTag(0, tag, 0, tag);
            Check.due("axles unknown", x.exceptions(tag), 0);
        }
        x.readPlate(1, 0, 0, 99, 60);
        for (int axles = 2; axles <= 9; axles++) {
            Check.due("a tag with 5 axles, " + axles, x.assignAxles(0, axles), five[axles - 2]);
            Check.due("a tag without a class, " + axles, x.assignAxles(1, axles), two[axles - 2]);
            Check.due("a tag with 9 axles, " + axles, x.assignAxles(2, axles), nine[axles - 2]);
            Check.due("the vehicle is a plate, " + axles, x.assignAxles(3, axles), 0);
        }
        FreeFlowToll y = Check.with("gantries 2;class 3 5;tag 11 5;");
        y.readPlate(0, 0, 0, 11, 60);
        y.readAxles(0, 0, 0, 2);
        Check.due("a tag by its plate", y.exceptions(0), 4);
        y.readAxles(0, 0, 0, 3);
        Check.due("of equals the greatest axles", y.exceptions(0), 0);
        FreeFlowToll z = Check.with("gantries 2;tag 11 5;");
        z.readTag(0, 0, 0, 0);
        Check.due("no class at all", z.assignAxles(0, 2), 0);
    }

    /** "The exceptions of a passage are the sum of" */
    private static void sumsOfExceptions() {
        FreeFlowToll x = Check.with(NETWORK);
        x.readTag(0, 0, 0, 0);
        x.readAxles(0, 0, 0, 2);
        Check.due("4 alone", x.exceptions(0), 4);
        Check.due("2 and 4", x.assignPlate(0, 99), 6);
        Check.due("2 alone", x.assignAxles(0, 4), 2);
        Check.due("none", x.assignPlate(0, 11), 0);
        x.readAxles(0, 1, 0, 2);
        Check.due("1 alone", x.exceptions(1), 1);
        x.dismiss(1);
        Check.due("also when dismissed", x.exceptions(1), 1);
        x.assignPlate(0, 99);
        x.bill(0);
        Check.due("also when billed", x.exceptions(0), 2);
    }

    // ---- questions about passages

    /** "if there is no such passage" */
    private static void noSuchPassage() {
        Bounds.index("passageGantry", 6, Bounds::busy, (x, p) -> x.passageGantry(p));
        Bounds.index("passageTime", 6, Bounds::busy, (x, p) -> x.passageTime(p));
        Bounds.index("passageTag", 6, Bounds::busy, (x, p) -> x.passageTag(p));
        Bounds.index("passagePlate", 6, Bounds::busy, (x, p) -> x.passagePlate(p));
        Bounds.index("passageAxles", 6, Bounds::busy, (x, p) -> x.passageAxles(p));
        Bounds.index("votes", 6, Bounds::busy, (x, p) -> x.votes(p, 5));
        Bounds.index("votes for plate 0", 6, Bounds::busy, (x, p) -> x.votes(p, 0));
        Bounds.index("exceptions", 6, Bounds::busy, (x, p) -> x.exceptions(p));
        Bounds.index("passageState", 6, Bounds::busy, (x, p) -> x.passageState(p));
        Bounds.index("tripOf", 6, Bounds::busy, (x, p) -> x.tripOf(p));
        FreeFlowToll x = full();
        Check.due("the last of 80", x.passageTime(79), 790);
        Check.dueThrow("passage 80", IndexOutOfBoundsException.class, () -> x.passageTime(80));
        Check.dueThrow("votes of passage 80", IndexOutOfBoundsException.class, () -> x.votes(80, 5));
        Check.dueThrow("exceptions of passage 80", IndexOutOfBoundsException.class, () -> x.exceptions(80));
        x.undo();
        Check.dueThrow("an undone passage", IndexOutOfBoundsException.class, () -> x.passageTime(79));
    }

    /** "NONE if none was read", "NONE if it has none", "NONE if they are unknown", "NONE if it is not billed" */
    private static void nothingRead() {
        FreeFlowToll x = Check.with(NETWORK);
        x.readPlate(0, 0, 0, 5, 49);
        x.readTag(0, 1, 0, 0);
        x.readAxles(0, 2, 0, 2);
        int[] tags = {-1, 0, -1};
        int[] axles = {-1, -1, 2};
        for (int p = 0; p < 3; p++) {
            Check.due("passageTag(" + p + ")", x.passageTag(p), tags[p]);
            Check.due("passagePlate(" + p + ")", x.passagePlate(p), -1);
            Check.due("passageAxles(" + p + ")", x.passageAxles(p), axles[p]);
            Check.due("tripOf(" + p + ")", x.tripOf(p), -1);
        }
        x.dismiss(0);
        x.bill(0);
        Check.due("tripOf(0), dismissed", x.tripOf(0), -1);
        Check.due("tripOf(1), billed", x.tripOf(1), 0);
        Check.due("tripOf(2), open", x.tripOf(2), -1);
        x.undo();
        Check.due("tripOf(1), no longer billed", x.tripOf(1), -1);
    }

    /** "Returns the number of passages.", "Returns the number of open passages." */
    private static void countsOfPassages() {
        FreeFlowToll x = Check.with(NETWORK);
        Check.due("none", x.passageCount(), 0);
        Check.due("none open", x.openPassages(), 0);
        x.readTag(0, 0, 0, 0);
        x.readTag(0, 1, 0, 0);
        Check.due("two", x.passageCount(), 2);
        Check.due("two open", x.openPassages(), 2);
        x.dismiss(0);
        Check.due("one open", x.openPassages(), 1);
        x.bill(0);
        Check.due("two", x.passageCount(), 2);
        Check.due("none open", x.openPassages(), 0);
        Check.due("80", full().passageCount(), 80);
        Check.due("80 open", full().openPassages(), 80);
    }

    /** "Returns the number of open passages whose exceptions are not 0." */
    private static void passagesToReview() {
        FreeFlowToll x = Check.with(NETWORK);
        Check.due("none", x.passagesToReview(), 0);
        x.readTag(0, 0, 0, 0);
        Check.due("none to be reviewed", x.passagesToReview(), 0);
        x.readAxles(0, 1, 0, 2);
        Check.due("exception 1", x.passagesToReview(), 1);
        x.assignPlate(0, 99);
        Check.due("exceptions 1 and 2", x.passagesToReview(), 2);
        x.readTag(0, 2, 0, 0);
        x.assignAxles(2, 9);
        Check.due("exceptions 1, 2 and 4", x.passagesToReview(), 3);
        x.dismiss(1);
        Check.due("not a dismissed one", x.passagesToReview(), 2);
        x.bill(0);
        Check.due("not a billed one", x.passagesToReview(), 0);
        Check.due("80", full().passagesToReview(), 80);
    }

    // ---- review

    /**
     * Promise 39: "plate: 1 to 9999"; "if there is no such passage", "if plate is out of range", "if the
     * passage is not open"
     */
    private static void assignPlate() {
        Bounds.argument("assignPlate plate", 1, 9999, Bounds::busy, (x, plate) -> x.assignPlate(4, plate));
        for (int p : new int[] {-1, 6, 80, Integer.MIN_VALUE, Integer.MAX_VALUE}) {
            Bounds.badIndex("assignPlate of passage " + p, Bounds::busy, x -> x.assignPlate(p, 5));
        }
        Bounds.badState("assignPlate of a billed passage", Bounds::busy, x -> x.assignPlate(2, 5));
        Bounds.badState("assignPlate of a dismissed passage", Bounds::busy, x -> x.assignPlate(3, 5));
        Check.due("the first open passage", Bounds.busy().assignPlate(4, 11), 0);
        Check.due("the last open passage", Bounds.busy().assignPlate(5, 22), 0);
        Check.due("the exceptions then", Bounds.busy().assignPlate(5, 11), 2);
        FreeFlowToll x = full();
        x.assignPlate(79, 9999);
        Check.due("the last of 80", x.passagePlate(79), 9999);
    }

    /**
     * Promise 40: "axles: 2 to 9"; "if there is no such passage", "if axles is out of range", "if the passage
     * is not open"
     */
    private static void assignAxles() {
        Bounds.argument("assignAxles axles", 2, 9, Bounds::busy, (x, axles) -> x.assignAxles(4, axles));
        for (int p : new int[] {-1, 6, 80, Integer.MIN_VALUE, Integer.MAX_VALUE}) {
            Bounds.badIndex("assignAxles of passage " + p, Bounds::busy, x -> x.assignAxles(p, 5));
        }
        Bounds.badState("assignAxles of a billed passage", Bounds::busy, x -> x.assignAxles(2, 5));
        Bounds.badState("assignAxles of a dismissed passage", Bounds::busy, x -> x.assignAxles(3, 5));
        Check.due("the first open passage", Bounds.busy().assignAxles(4, 9), 0);
        Check.due("the exceptions then", Bounds.busy().assignAxles(5, 9), 6);
        FreeFlowToll x = full();
        x.assignAxles(79, 2);
        Check.due("the last of 80", x.passageAxles(79), 2);
    }

    /**
     * Promise 41: "it will never be billed"; "the number of passages that are still open"; "if the passage is
     * not open"
     */
    private static void dismiss() {
        for (int p : new int[] {-1, 6, 80, Integer.MIN_VALUE, Integer.MAX_VALUE}) {
            Bounds.badIndex("dismiss passage " + p, Bounds::busy, x -> x.dismiss(p));
        }
        Bounds.badState("dismiss a billed passage", Bounds::busy, x -> x.dismiss(0));
        Bounds.badState("dismiss a dismissed passage", Bounds::busy, x -> x.dismiss(3));
        FreeFlowToll x = Bounds.busy();
        Check.due("one left", x.dismiss(4), 1);
        Check.due("none left", x.dismiss(5), 0);
        Check.due("never billed", x.bill(99999), 0);
        Check.due("never billed", x.previewTrips(99999), 0);
        Check.due("never billed", x.previewTotal(99999), 0);
        FreeFlowToll y = full();
        Check.due("the first of 80", y.dismiss(0), 79);
        Check.due("the last of 80", y.dismiss(79), 78);
    }

    /** "(checked first)", "(checked second)" */
    private static void reviewOrderOfChecks() {
        for (int p : new int[] {-1, 6}) {
            Bounds.badIndex("no passage and no plate", Bounds::busy, x -> x.assignPlate(p, 0));
            Bounds.badIndex("no passage and no plate", Bounds::busy, x -> x.assignPlate(p, 10000));
            Bounds.badIndex("no passage and no axles", Bounds::busy, x -> x.assignAxles(p, 1));
            Bounds.badIndex("no passage and no axles", Bounds::busy, x -> x.assignAxles(p, 10));
        }
        for (int p : new int[] {0, 2, 3}) {
            Bounds.badArgument("no plate and not open", Bounds::busy, x -> x.assignPlate(p, 0));
            Bounds.badArgument("no plate and not open", Bounds::busy, x -> x.assignPlate(p, 10000));
            Bounds.badArgument("no axles and not open", Bounds::busy, x -> x.assignAxles(p, 1));
            Bounds.badArgument("no axles and not open", Bounds::busy, x -> x.assignAxles(p, 10));
        }
    }
}
