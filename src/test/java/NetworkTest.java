/** Promises 1 to 6: a new object, append, parse, gantryCount, tagCount, classOf. */
public final class NetworkTest {
    private static final String HEAD = "gantries 10;";

    public static void main(String[] args) {
        newObject();
        append();
        parseLength();
        parseGood();
        tokens();
        ranges();
        repeated();
        tooMany();
        lowestOffset();
        afterError();
        afterSuccess();
        manyNetworks();
        nothingStays();
        counts();
        classes();
        Check.end("NetworkTest");
    }

    private static void newObject() {
        FreeFlowToll x = new FreeFlowToll();
        Check.same("1 a new object", Check.dump(x),
                "0 0 -1 -1 -1 -1 -1 -1 -1 -1; passages 0 0 0; preview 0 0; trips; invoices; 0");
        Check.due("1 undo", x.undo(), -1);
        Check.due("1 slot 0 is empty", x.restoreSnapshot(0), false);
        Check.due("1 slot 1 is empty", x.restoreSnapshot(1), false);
        Check.badArgument("1 the buffer is empty", () -> x.parse(1));
        Check.due("1 append to the empty buffer", x.append(0, 0, 0, 0, 0), 20);
        Check.due("1 NONE", FreeFlowToll.NONE, -1);
    }

    private static void append() {
        FreeFlowToll x = new FreeFlowToll();
        for (int n = 1; n <= 45; n++) {
            Check.due("2 append " + n, x.append(0x20202020, 0x20202020, 0x20202020, 0x20202020, 0x20202020), 20 * n);
        }
        Check.due("2 append to a full buffer", x.append(1, 2, 3, 4, 5), -1);
        Check.due("2 append to a full buffer again", x.append(1, 2, 3, 4, 5), -1);
        Check.badArgument("2 a full buffer holds no more", () -> x.parse(901));
        Check.due("2 nothing but white space", x.parse(900), Check.error(900, 1));
        Check.due("2 append to the emptied buffer", x.append(0x67616e74, 0x72696573, 0x20323b00, 0, 0), 20);
        Check.due("2 the order of the bytes", x.parse(11), 0);
        Check.due("2 the order of the bytes, gantries", x.gantryCount(), 2);

        FreeFlowToll y = new FreeFlowToll();
        y.append(0x67616e74, 0x72696573, 0x20323b80, 0, 0);
        Check.due("2 a byte of 128", y.parse(12), Check.error(11, 1));
        y.append(0x67616e74, 0x72696573, 0x20323b20, 0x0a20ff00, 0);
        Check.due("2 a byte of 255", y.parse(15), Check.error(14, 1));
        y.append(0x20202020, 0x20202020, 0x20202020, 0x20202020, 0x2020ff00);
        Check.due("2 the fifth word comes last", y.parse(20), Check.error(18, 1));
    }

    private static void parseLength() {
        FreeFlowToll x = new FreeFlowToll();
        int length = Check.appendText(x, "gantries 2;link 0 1 9 100;");
        Check.badArgument("3 parse(-1)", () -> x.parse(-1));
        Check.badArgument("3 parse(41)", () -> x.parse(41));
        Check.badArgument("3 parse(min)", () -> x.parse(Integer.MIN_VALUE));
        Check.badArgument("3 parse(max)", () -> x.parse(Integer.MAX_VALUE));
        Check.due("3 a refused length leaves the buffer", x.parse(length), 1);
        Check.badArgument("3 a success empties the buffer", () -> x.parse(1));
        Check.due("3 parse(0)", x.parse(0), 0);
        Check.due("3 parse(0) gives the empty network", x.gantryCount(), 0);
        Check.appendText(x, "gantries 3;link 0 1 9 100;");
        Check.due("3 parse(0) with a text in the buffer", x.parse(0), 0);
        Check.badArgument("3 parse(0) empties the buffer", () -> x.parse(1));
        Check.appendText(x, "gantries 3;link 0 1 9 100;");
        Check.due("3 only the first bytes count", x.parse(11), 0);
        Check.due("3 only the first bytes count, gantries", x.gantryCount(), 3);
        Check.appendText(x, "gantries 3;link 0 1 9 100;");
        Check.due("3 a word that is cut off", x.parse(14), Check.error(11, 1));
        Check.appendText(x, "gantries 10;");
        Check.due("3 a number that is cut off", x.parse(10), Check.error(9, 2));
    }

    private static void parseGood() {
        good("gantries 2;", 0);
        good("gantries2;", 0);
        good(" \n gantries\n2 ; \n", 0);
        good("gantries 0002;", 0);
        good("gantries 2;link0 1 9 100;link1 0 9 100;", 2);
        good("gantries 2;link 0 1 0120 5000;", 1);
        good("gantries 10;link 0 9 1 1;link 9 0 120 5000;", 2);
        good("gantries 2;class 2 1;class 3 900;class 8 1;class 9 1;", 0);
        good("gantries 2;tag 1 2;tag 9999 9;", 0);
        good("gantries 2;window 0;confidence 1;fee 0;", 0);
        good("gantries 2;fee 5000;confidence 300;window 10;", 0);
        good(HEAD + links(24), 24);
        good(HEAD + tags(12), 0);
    }

    private static void good(String text, int links) {
        Check.due("3 parse " + text, Check.parse(new FreeFlowToll(), text), links);
    }

    /** The sign ^ marks the offset of the error and is not part of the text. */
    private static void bad(String marked, int kind) {
        int offset = marked.indexOf('^');
        String text = marked.substring(0, offset) + marked.substring(offset + 1);
        Check.due("3 parse " + marked, Check.parse(new FreeFlowToll(), text), Check.error(offset, kind));
    }

    private static void tokens() {
        bad("^Gantries 2;", 1);
        bad("^gantrie 2;", 1);
        bad("^gantriess 2;", 1);
        bad(" \n^link 0 1 9 9;", 1);
        bad("^2;", 1);
        bad("^;", 1);
        bad("gantries ^two;", 1);
        bad("gantries^;", 1);
        bad("gantries 2^,", 1);
        bad("gantries 2 ^3;", 1);
        bad("gantries 2;^;", 1);
        bad("gantries ^00002;", 1);
        bad("gantries ^-2;", 1);
        bad("gantries^\t2;", 1);
        bad("gantries 2;^\r", 1);
        bad("gantries 2;^`", 1);
        bad("gantries 2;^{", 1);
        bad("gantries 2;^/", 1);
        bad("gantries 2;^:", 1);
        bad("gantries 2;^\u0000", 1);
        bad("gantries 2;^5;", 1);
        bad("gantries 2;^gantries 2;", 1);
        bad("gantries 2;^lin 0 1 9 9;", 1);
        bad("gantries 2;^links 0 1 9 9;", 1);
        bad("gantries 2;^linkz 0 1 9 9;", 1);
        bad("gantries 2;^sink 0 1 9 9;", 1);
        bad("gantries 2;^bag 5 2;", 1);
        bad("gantries 2;^confidences 5;", 1);
        bad("gantries 2;^confidenceconfidence 5;", 1);
        bad("gantries 2;^classes 2 100;", 1);
        bad("gantries 2;link 0 1 9^;", 1);
        bad("gantries 2;link 0 1 9 9 ^9;", 1);
        bad("gantries 2;link 0 1 9 ^12345;", 1);
        bad("gantries 2;link 0 1 9 9 ^link 1 0 9 9;", 1);
        bad("gantries 2;link 0 1 9 9^#;", 1);
        bad("gantries 2;class 2 100 ^x;", 1);
        bad("gantries 2;window^;", 1);
        bad("gantries 2;tag 5 ^window;", 1);
        bad(" ^", 1);
        bad("\n\n \n^", 1);
        bad("gantries^", 1);
        bad("gantries ^", 1);
        bad("gantries 2^", 1);
        bad("gantries 2;link 0 1 9 9^", 1);
        bad("gantries 2;link 0 1 9 9  \n^", 1);
        bad("gantries 2;link^", 1);
        bad("gantries 2;fee ^", 1);
        bad("gantries 2;fee 1;tag 1^", 1);
    }

    private static void ranges() {
        bad("gantries ^1;", 2);
        bad("gantries ^11;", 2);
        bad("gantries ^0;", 2);
        bad("gantries ^9999;", 2);
        bad("gantries 2;link ^2 1 9 9;", 2);
        bad("gantries 2;link 0 ^2 9 9;", 2);
        bad("gantries 3;link ^3 3 9 9;", 2);
        bad("gantries 3;link 0 ^3 9 9;", 2);
        bad("gantries 2;link 0 1 ^0 9;", 2);
        bad("gantries 2;link 0 1 ^121 9;", 2);
        bad("gantries 2;link 0 1 9 ^0;", 2);
        bad("gantries 2;link 0 1 9 ^5001;", 2);
        bad("gantries 2;class ^1 100;", 2);
        bad("gantries 2;class ^10 100;", 2);
        bad("gantries 2;class 2 ^0;", 2);
        bad("gantries 2;class 2 ^901;", 2);
        bad("gantries 2;class 4 100;class ^4 99;", 2);
        bad("gantries 2;class 4 100;class ^3 99;", 2);
        bad("gantries 2;class 9 100;class ^9 99;", 2);
        bad("gantries 2;class 2 100;class 9 100;class ^5 99;", 2);
        bad("gantries 2;tag ^0 2;", 2);
        bad("gantries 2;tag 5 ^1;", 2);
        bad("gantries 2;tag 5 ^10;", 2);
        bad("gantries 2;window ^11;", 2);
        bad("gantries 2;confidence ^0;", 2);
        bad("gantries 2;confidence ^301;", 2);
        bad("gantries 2;fee ^5001;", 2);
    }

    private static void repeated() {
        bad("gantries 2;link 0 ^0 9 9;", 3);
        bad("gantries 3;link 0 1 9 9;link 1 2 9 9;link 0 ^1 8 8;", 3);
        bad("gantries 2;link 0 1 9 9;link 0 ^01 8 8;", 3);
        bad("gantries 2;tag 5 2;tag 6 3;tag ^5 4;", 3);
        bad("gantries 2;tag 5 2;tag ^0005 4;", 3);
        bad("gantries 2;fee 5; ^fee 6;", 3);
        bad("gantries 2;window 5; ^window 5;", 3);
        bad("gantries 2;confidence 5;fee 1; ^confidence x;", 3);
        bad("gantries 2;fee 0;^fee;", 3);
        bad("gantries 2;window 1;^window 1;", 3);
        bad("gantries 2;confidence 60;^confidence 60;", 3);
        good("gantries 2;fee 1;window 1;confidence 1;", 0);
        good("gantries 3;link 0 1 9 9;link 1 0 9 9;link 0 2 9 9;", 3);
    }

    private static void tooMany() {
        String full = HEAD + links(24);
        bad(full + " ^link 9 8 9 9;", 4);
        bad(full + " ^link zero;", 4);
        bad(full + "^link", 4);
        bad(full + "^links", 1);
        String four = HEAD + "class 2 1;class 3 1;class 4 1;class 5 1;";
        bad(four + "^class 6 1;", 4);
        bad(four + "^class 5 2;", 4);
        bad(HEAD + tags(12) + " ^tag 1 2;", 4);
        bad(HEAD + tags(12) + "^tag 100 2;", 4);
    }

    private static void lowestOffset() {
        bad("gantries ^1;?", 2);
        bad("gantries 2;link ^5 5 0 0;", 2);
        bad("gantries 2;link 0 ^0 0 0", 3);
        bad("gantries 2;link 0 ^12345 9 9;link", 1);
        bad("gantries 2;window ^11;window 1;", 2);
        bad("gantries 2;tag 5 2;tag ^5 1", 3);
        bad("gantries 2;fee ^9999 9", 2);
    }

    private static void afterError() {
        FreeFlowToll x = Check.with("gantries 3;link 0 1 9 100;class 2 100;tag 5 2;window 2;");
        x.readTag(0, 0, 7, 0);
        x.readPlate(1, 0, 8, 6, 90);
        x.saveSnapshot(1);
        x.readAxles(2, 0, 9, 4);
        String before = Check.dump(x);
        Check.due("3 error", Check.parse(x, "gantries 2;tag 7 2;class 5 1;window 9;fee 3;oops;"), Check.error(44, 1));
        Check.same("3 after an error everything stays", Check.dump(x), before);
        Check.badArgument("3 after an error the buffer is empty", () -> x.parse(1));
        Check.due("3 after an error the window stays", x.readAxles(2, 0, 11, 4), 2);
        Check.due("3 after an error undo goes on", x.undo(), 3);
        Check.same("3 after an error undo goes on", Check.dump(x), before);
        Check.due("3 after an error the snapshot stays", x.restoreSnapshot(1), true);
        Check.due("3 after an error the routes stay", x.routePrice(0, 1, 0), 100);
    }

    private static void afterSuccess() {
        FreeFlowToll x = Check.with("gantries 3;link 0 1 9 100;class 2 100;tag 5 2;window 2;confidence 9;fee 9;");
        x.readTag(0, 0, 700, 0);
        x.readPlate(1, 0, 800, 6, 90);
        x.bill(99999);
        x.saveSnapshot(0);
        x.saveSnapshot(1);
        Check.due("3 a second network", Check.parse(x, "gantries 2;tag 8 3;"), 0);
        Check.same("3 a second network replaces everything", Check.dump(x),
                "2 1 -1 -1 -1 -1 -1 -1 -1 -1; passages 0 0 0; preview 0 0; trips; invoices; 0");
        Check.due("3 a second network clears the history", x.undo(), -1);
        Check.due("3 a second network empties slot 0", x.restoreSnapshot(0), false);
        Check.due("3 a second network empties slot 1", x.restoreSnapshot(1), false);
        Check.due("3 the links are gone", x.routeLinks(0, 1, 0), -1);
        Check.due("3 readings begin at 0 again", x.readPlate(0, 0, 0, 7, 59), 0);
        Check.due("3 confidence is 60 again", x.passagePlate(0), -1);
        x.readPlate(0, 0, 1, 7, 1);
        Check.due("3 confidence is 60 again", x.passagePlate(0), 7);
        Check.due("3 window is 1 again", x.readPlate(0, 0, 2, 7, 60), 1);
        Check.due("3 fee is 0 again", x.previewTotal(99999), 0);
        Check.due("3 parse(0)", x.parse(0), 0);
        Check.same("3 parse(0) clears everything", Check.dump(x), Check.dump(new FreeFlowToll()));
        Check.due("3 parse(0) clears the history", x.undo(), -1);
    }

    /** Each network begins anew, however many were read before it. */
    private static void manyNetworks() {
        FreeFlowToll x = new FreeFlowToll();
        String full = "gantries 3;link 0 1 9 5;class 2 50;tag 5 2;window 9;confidence 9;fee 9;";
        for (int n = 0; n < 3; n++) {
            Check.due("3 a network with all statements", Check.parse(x, full), 1);
            Check.due("3 its tags", x.tagCount(), 1);
        }
        for (int n = 0; n < 3; n++) {
            Check.due("3 a network without settings", Check.parse(x, "gantries 3;link 1 2 9 8;"), 1);
            Check.due("3 no tags", x.tagCount(), 0);
            Check.due("3 no classes", x.classOf(9), -1);
            Check.due("3 no old links", x.routeLinks(0, 1, 0), -1);
            x.readPlate(1, 0, 0, 7, 59);
            Check.due("3 confidence is 60", x.passagePlate(0), -1);
            Check.due("3 window is 1", x.readPlate(1, 0, 2, 7, 60), 1);
            Check.due("3 no fee and no old prices", x.previewTotal(2), 8);
        }
        for (int n = 0; n < 3; n++) {
            Check.due("3 a network that fails late", Check.parse(x, full + "fee"), Check.error(full.length(), 3));
        }
        Check.due("3 the last good network", x.routePrice(1, 2, 9), 8);
    }

    /** Nothing of the passages, trips and invoices before is left in those after. */
    private static void nothingStays() {
        FreeFlowToll x = Check.with("gantries 2;link 0 1 9 5;tag 5 2;");
        for (int plate = 11; plate <= 14; plate++) {
            x.readPlate(0, 0, 50, plate, 90);
        }
        x.readTag(0, 0, 50, 0);
        x.readAxles(0, 0, 50, 9);
        x.assignPlate(0, 6);
        x.assignAxles(0, 7);
        x.bill(50);
        x.pay(0, 3);
        x.dispute(0);
        x.resolve(0, true);
        Check.parse(x, "gantries 2;link 0 1 9 5;tag 5 2;");
        x.readPlate(0, 0, 0, 15, 70);
        Check.due("3 no old votes", x.votes(0, 11), 0);
        Check.due("3 no old plates", x.passagePlate(0), 15);
        Check.due("3 room for four plates", x.votes(0, 15), 70);
        Check.due("3 no old tag", x.passageTag(0), -1);
        Check.due("3 no old axles", x.passageAxles(0), -1);
        Check.due("3 open", x.passageState(0), 0);
        Check.due("3 no old trip", x.tripOf(0), -1);
        x.bill(0);
        Check.due("3 no old dispute", x.tripState(0), 0);
        Check.due("3 no old payment", x.balance(0), 5);
    }

    private static void counts() {
        FreeFlowToll x = Check.with("gantries 7;tag 9 2;tag 8 2;tag 7 3;");
        Check.due("4 gantryCount", x.gantryCount(), 7);
        Check.due("5 tagCount", x.tagCount(), 3);
        Check.parse(x, HEAD + tags(12));
        Check.due("4 gantryCount", x.gantryCount(), 10);
        Check.due("5 tagCount", x.tagCount(), 12);
    }

    private static void classes() {
        FreeFlowToll x = Check.with("gantries 2;class 3 50;class 4 60;class 7 70;");
        int[] due = {-1, 0, 1, 1, 1, 2, 2, 2};
        for (int axles = 2; axles <= 9; axles++) {
            Check.due("6 classOf(" + axles + ")", x.classOf(axles), due[axles - 2]);
        }
        for (int axles : new int[] {1, 10, 0, -1, Integer.MIN_VALUE, Integer.MAX_VALUE}) {
            Check.badArgument("6 classOf(" + axles + ")", () -> x.classOf(axles));
        }
        FreeFlowToll none = Check.with("gantries 2;");
        Check.due("6 classOf(9) without classes", none.classOf(9), -1);
        Check.due("6 classOf(2) of a new object", new FreeFlowToll().classOf(2), -1);
        Check.badArgument("6 classOf(1) of a new object", () -> new FreeFlowToll().classOf(1));
    }

    private static String links(int count) {
        StringBuilder s = new StringBuilder();
        for (int n = 0; n < count; n++) {
            int from = n / 9;
            int to = n % 9 < from ? n % 9 : n % 9 + 1;
            s.append("link ").append(from).append(' ').append(to).append(" 9 9;");
        }
        return s.toString();
    }

    private static String tags(int count) {
        StringBuilder s = new StringBuilder();
        for (int n = 0; n < count; n++) {
            s.append("tag ").append(100 + n).append(" 2;");
        }
        return s.toString();
    }
}
