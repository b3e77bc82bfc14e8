import java.nio.charset.StandardCharsets;

/** What the project's tests share: making an object, asking it, and telling what is not as due. */
final class Check {
    private static int wrong = 0;
    private static int asked = 0;

    private Check() {
    }

    interface Call {
        long run();
    }

    static void due(String what, long got, long want) {
        asked++;
        if (got != want) {
            wrong++;
            System.out.println(what + " answered " + got + ", due is " + want);
        }
    }

    static void due(String what, boolean got, boolean want) {
        due(what, got ? 1 : 0, want ? 1 : 0);
    }

    static void same(String what, String got, String want) {
        asked++;
        if (!got.equals(want)) {
            wrong++;
            System.out.println(what + ":\n  got " + got + "\n  due " + want);
        }
    }

    /** The very class counts: a subclass would come from the machine. */
    static void dueThrow(String what, Class<? extends RuntimeException> want, Call call) {
        asked++;
        String got = "nothing thrown";
        try {
            got = "the answer " + call.run();
        } catch (RuntimeException e) {
            if (e.getClass() == want) {
                return;
            }
            got = e.toString();
        }
        wrong++;
        System.out.println(what + " gave " + got + ", due is " + want.getSimpleName());
    }

    /** That such a call changes nothing is left to Bounds: to look at all answers takes too many calls here. */
    static void badArgument(String what, Call call) {
        dueThrow(what, IllegalArgumentException.class, call);
    }

    static void badState(String what, Call call) {
        dueThrow(what, IllegalStateException.class, call);
    }

    static void badIndex(String what, Call call) {
        dueThrow(what, IndexOutOfBoundsException.class, call);
    }

    /** Appends a text, the last twenty bytes filled up with zeros, and returns its length. */
    static int appendText(FreeFlowToll x, String text) {
        byte[] bytes = text.getBytes(StandardCharsets.ISO_8859_1);
        for (int at = 0; at < bytes.length; at += 20) {
            x.append(word(bytes, at), word(bytes, at + 4), word(bytes, at + 8), word(bytes, at + 12),
                    word(bytes, at + 16));
        }
        return bytes.length;
    }

    private static int word(byte[] bytes, int at) {
        int word = 0;
        for (int i = at; i < at + 4; i++) {
            word = word << 8 | (i < bytes.length ? bytes[i] & 255 : 0);
        }
        return word;
    }

    static int parse(FreeFlowToll x, String text) {
        return x.parse(appendText(x, text));
    }

    static FreeFlowToll with(String text) {
        FreeFlowToll x = new FreeFlowToll();
        if (parse(x, text) < 0) {
            throw new IllegalStateException("a test's own network is wrong: " + text);
        }
        return x;
    }

    static int error(int offset, int kind) {
        return -2 - (8 * offset + kind);
    }

    /** Every answer that can be asked for without a change. */
    static String dump(FreeFlowToll x) {
        StringBuilder s = new StringBuilder();
        s.append(x.gantryCount()).append(' ').append(x.tagCount());
        for (int axles = 2; axles <= 9; axles++) {
            s.append(' ').append(x.classOf(axles));
        }
        s.append("; passages ").append(x.passageCount()).append(' ').append(x.openPassages());
        s.append(' ').append(x.passagesToReview());
        for (int p = 0; p < x.passageCount(); p++) {
            s.append(" (").append(x.passageGantry(p)).append(' ').append(x.passageTime(p));
            s.append(' ').append(x.passageTag(p)).append(' ').append(x.passagePlate(p));
            s.append(' ').append(x.passageAxles(p)).append(' ').append(x.exceptions(p));
            s.append(' ').append(x.passageState(p)).append(' ').append(x.tripOf(p)).append(')');
        }
        s.append("; preview ").append(x.previewTrips(99999)).append(' ').append(x.previewTotal(99999));
        s.append("; trips");
        for (int t = 0; t < x.tripCount(); t++) {
            s.append(" (").append(x.tripAmount(t)).append(' ').append(x.tripClass(t));
            s.append(' ').append(x.tripPassages(t)).append(' ').append(x.tripState(t));
            s.append(' ').append(x.invoiceOf(t)).append(')');
        }
        s.append("; invoices");
        for (int i = 0; i < x.invoiceCount(); i++) {
            s.append(" (").append(x.invoiceTag(i)).append(' ').append(x.invoicePlate(i));
            s.append(' ').append(x.invoiceTotal(i)).append(' ').append(x.balance(i)).append(')');
        }
        return s.append("; ").append(x.outstanding()).toString();
    }

    /** How many changes can be undone; undoes them all. */
    static int undoAll(FreeFlowToll x) {
        int undone = 0;
        while (undone < 1000 && x.undo() != FreeFlowToll.NONE) {
            undone++;
        }
        return undone;
    }

    static void end(String test) {
        System.out.println(test + ": " + asked + " answers, " + wrong + " not as due");
        if (wrong != 0) {
            System.exit(1);
        }
    }
}
