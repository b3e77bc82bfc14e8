import java.util.function.Supplier;

/**
 * What the tests of boundary cases share. A case is tried on objects of its own, each of them used
 * for fewer than 512 calls, and a call that is refused is followed by a comparison with a twin: an
 * object that was made by the same calls and has not seen the refused one.
 */
final class Bounds {
    private static final int SHOWN = 3;
    private static final int[] PLATES = {5, 9, 44, 99};

    private Bounds() {
    }

    interface Asked {
        long of(FreeFlowToll x);
    }

    interface AskedWith {
        long of(FreeFlowToll x, int value);
    }

    static long yes(boolean answer) {
        return answer ? 1 : 0;
    }

    // ---- calls that are refused

    static void badArgument(String what, Supplier<FreeFlowToll> made, Asked call) {
        refused(what, IllegalArgumentException.class, made, call);
    }

    static void badState(String what, Supplier<FreeFlowToll> made, Asked call) {
        refused(what, IllegalStateException.class, made, call);
    }

    static void badIndex(String what, Supplier<FreeFlowToll> made, Asked call) {
        refused(what, IndexOutOfBoundsException.class, made, call);
    }

    private static void refused(String what, Class<? extends RuntimeException> kind, Supplier<FreeFlowToll> made,
            Asked call) {
        changesNothing(what, made, x -> {
            Check.dueThrow(what, kind, () -> call.of(x));
            return 0;
        });
    }

    /** The arguments from low to high are allowed; those beside them and far from them are not. */
    static void argument(String what, int low, int high, Supplier<FreeFlowToll> made, AskedWith call) {
        limits(what, low, high, IllegalArgumentException.class, made, call);
    }

    /** Passages, trips and invoices: their numbers begin with 0. */
    static void index(String what, int count, Supplier<FreeFlowToll> made, AskedWith call) {
        limits(what, 0, count - 1, IndexOutOfBoundsException.class, made, call);
    }

    private static void limits(String what, int low, int high, Class<? extends RuntimeException> kind,
            Supplier<FreeFlowToll> made, AskedWith call) {
        if (low <= high) {
            allowed(what + " with " + low, made, x -> call.of(x, low));
            allowed(what + " with " + high, made, x -> call.of(x, high));
        }
        for (int value : new int[] {low - 1, high + 1, Integer.MIN_VALUE, Integer.MAX_VALUE}) {
            refused(what + " with " + value, kind, made, x -> call.of(x, value));
        }
    }

    private static void allowed(String what, Supplier<FreeFlowToll> made, Asked call) {
        String got = "an answer";
        try {
            call.of(made.get());
        } catch (RuntimeException e) {
            got = e.toString();
        }
        Check.same(what, got, "an answer");
    }

    // ---- twins

    /** After the call an object must be, in everything that can be found out, like one without it. */
    static void changesNothing(String what, Supplier<FreeFlowToll> made, Asked call) {
        FreeFlowToll[] called = new FreeFlowToll[4];
        FreeFlowToll[] twin = new FreeFlowToll[4];
        for (int n = 0; n < called.length; n++) {
            called[n] = made.get();
            twin[n] = made.get();
            call.of(called[n]);
        }
        String nothing = what + " changes nothing";
        Check.same(nothing, answers(called[0]), answers(twin[0]));
        Check.same(nothing + " for undo", undone(called[1]), undone(twin[1]));
        Check.same(nothing + " in the slots", slots(called[2]), slots(twin[2]));
        Check.due(nothing + " of the buffer", called[3].append(0, 0, 0, 0, 0), twin[3].append(0, 0, 0, 0, 0));
        Check.due(nothing + " of the latest time", earliest(called[3]), earliest(twin[3]));
    }

    private static String undone(FreeFlowToll x) {
        int changes = Check.undoAll(x);
        return changes + " changes back: " + answers(x);
    }

    private static String slots(FreeFlowToll x) {
        String first = x.restoreSnapshot(0) ? answers(x) : "empty";
        return "0: " + first + ", 1: " + (x.restoreSnapshot(1) ? answers(x) : "empty");
    }

    /** The earliest time that a reading can have now; -1 without a gantry. */
    static int earliest(FreeFlowToll x) {
        if (x.gantryCount() == 0) {
            return -1;
        }
        int low = 0;
        int high = 100000;
        while (low < high) {
            int middle = (low + high) / 2;
            if (canRead(x, middle)) {
                high = middle;
            } else {
                low = middle + 1;
            }
        }
        return low;
    }

    private static boolean canRead(FreeFlowToll x, int time) {
        try {
            x.readAxles(0, 0, time, 2);
            x.undo();
            return true;
        } catch (IllegalStateException e) {
            return true;
        } catch (IllegalArgumentException e) {
            return false;
        }
    }

    /** The answers about the network and about the first and the last passages, trips and invoices. */
    static String answers(FreeFlowToll x) {
        StringBuilder s = new StringBuilder();
        s.append(x.gantryCount()).append(' ').append(x.tagCount());
        s.append(' ').append(x.classOf(2)).append(' ').append(x.classOf(4)).append(' ').append(x.classOf(9));
        if (x.gantryCount() > 0) {
            s.append(' ').append(x.routePrice(0, 1, 0)).append(' ').append(x.routePrice(1, 0, 9));
        }
        s.append("; ").append(x.passageCount()).append(' ').append(x.openPassages());
        s.append(' ').append(x.passagesToReview()).append(' ').append(x.previewTrips(99999));
        s.append(' ').append(x.previewTotal(99999)).append("; passages");
        for (int p = 0; p < x.passageCount(); p = next(p, x.passageCount())) {
            s.append(passage(x, p));
        }
        s.append("; ").append(x.tripCount()).append(" trips");
        for (int t = 0; t < x.tripCount(); t = next(t, x.tripCount())) {
            s.append(" (").append(x.tripAmount(t)).append(' ').append(x.tripClass(t));
            s.append(' ').append(x.tripPassages(t)).append(' ').append(x.tripState(t));
            s.append(' ').append(x.invoiceOf(t)).append(')');
        }
        s.append("; ").append(x.invoiceCount()).append(" invoices");
        for (int i = 0; i < x.invoiceCount(); i = next(i, x.invoiceCount())) {
            s.append(" (").append(x.invoiceTag(i)).append(' ').append(x.invoicePlate(i));
            s.append(' ').append(x.invoiceTotal(i)).append(' ').append(x.balance(i)).append(')');
        }
        return s.append("; ").append(x.outstanding()).toString();
    }

    private static int next(int n, int count) {
        return n + 1 == SHOWN ? Math.max(SHOWN, count - SHOWN) : n + 1;
    }

    private static String passage(FreeFlowToll x, int p) {
        StringBuilder s = new StringBuilder();
        s.append(" (").append(x.passageGantry(p)).append(' ').append(x.passageTime(p));
        s.append(' ').append(x.passageTag(p)).append(' ').append(x.passagePlate(p));
        s.append(' ').append(x.passageAxles(p)).append(' ').append(x.exceptions(p));
        s.append(' ').append(x.passageState(p)).append(' ').append(x.tripOf(p)).append(", votes");
        for (int plate : PLATES) {
            s.append(' ').append(x.votes(p, plate));
        }
        return s.append(')').toString();
    }

    // ---- objects to try calls on

    static final String NETWORK = "gantries 3;link 0 1 10 100;link 1 2 10 50;class 3 150;class 5 200;"
            + "tag 11 3;tag 22 2;window 2;confidence 50;fee 7;";

    /**
     * Passages 0 and 1 are billed as trip 0 (disputed) of tag 0, 2 is billed as trip 1 of plate 44,
     * 3 is dismissed, 4 and 5 are open; slot 0 is full, slot 1 is empty, the latest time is 41.
     */
    static FreeFlowToll busy() {
        FreeFlowToll x = Check.with(NETWORK);
        x.readTag(0, 0, 10, 0);
        x.readTag(1, 0, 20, 0);
        x.readPlate(1, 1, 20, 44, 60);
        x.readPlate(2, 1, 30, 5, 20);
        x.dismiss(3);
        x.bill(30);
        x.saveSnapshot(0);
        x.pay(1, 30);
        x.dispute(0);
        x.readPlate(0, 2, 40, 9, 70);
        x.readTag(2, 3, 41, 1);
        x.assignPlate(5, 99);
        return x;
    }

    // ---- texts

    /** A text is a network with this number of links, on a new object as on one that was used. */
    static void parses(String text, int links) {
        Check.due("parse " + text, Check.parse(new FreeFlowToll(), text), links);
        Check.due("parse on a busy object " + text, Check.parse(busy(), text), links);
    }

    /** The sign ^ marks the offset of the error and is not part of the text. */
    static void fails(String marked, int kind) {
        int offset = marked.indexOf('^');
        String text = marked.substring(0, offset) + marked.substring(offset + 1);
        fails(text, offset, kind);
    }

    static void fails(String text, int offset, int kind) {
        Check.due("parse " + text, Check.parse(new FreeFlowToll(), text), Check.error(offset, kind));
        changesNothing("the error in " + text, Bounds::busy, x -> Check.parse(x, text));
    }
}
