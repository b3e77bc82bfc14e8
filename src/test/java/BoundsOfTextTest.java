import java.util.function.Supplier;

/**
 * The boundary cases of the section NETWORK TEXT and of promises 1 to 6. Above each test stand the
 * words of the document that it is for.
 */
public final class BoundsOfTextTest {
    private static final String TWO = "gantries 2;";

    public static void main(String[] args) {
        newObject();
        newObjectRefuses();
        bufferOf900();
        newLength();
        orderOfBytes();
        parseLength();
        parseNothing();
        firstBytesOnly();
        bufferIsEmptyAfter();
        whiteSpace();
        everyByte();
        lengthOfWords();
        lengthOfNumbers();
        earlyEnd();
        cannotContinue();
        almostTheWord();
        statementsOrNone();
        countRange();
        linkRanges();
        classRanges();
        risingClasses();
        tagRanges();
        settingRanges();
        withoutSettings();
        withoutSettingsAgain();
        linkLimit();
        classLimit();
        tagLimit();
        fullestNetwork();
        settingsOnce();
        repeatedLinks();
        repeatedPlates();
        lowestOffset();
        lowestKind();
        answerOfAnError();
        countedAnew();
        errorLeavesAll();
        successRemovesAll();
        nothingStays();
        counts();
        numbersOfTags();
        classOfAxles();
        Check.end("BoundsOfTextTest");
    }

    /** "Creates an object with an empty network (no gantries, links, classes and tags) and an empty input buffer." */
    private static void newObject() {
        FreeFlowToll x = new FreeFlowToll();
        Check.due("gantryCount", x.gantryCount(), 0);
        Check.due("tagCount", x.tagCount(), 0);
        for (int axles = 2; axles <= 9; axles++) {
            Check.due("classOf", x.classOf(axles), -1);
        }
        Check.due("passageCount", x.passageCount(), 0);
        Check.due("openPassages", x.openPassages(), 0);
        Check.due("passagesToReview", x.passagesToReview(), 0);
        Check.due("previewTrips", x.previewTrips(99999), 0);
        Check.due("previewTotal", x.previewTotal(99999), 0);
        Check.due("tripCount", x.tripCount(), 0);
        Check.due("invoiceCount", x.invoiceCount(), 0);
        Check.due("outstanding", x.outstanding(), 0);
        Check.due("bill", x.bill(99999), 0);
        Check.due("undo", x.undo(), -1);
        Check.due("slot 0", x.restoreSnapshot(0), false);
        Check.due("slot 1", x.restoreSnapshot(1), false);
        Check.due("append to the empty buffer", x.append(0, 0, 0, 0, 0), 20);
        Check.due("NONE", FreeFlowToll.NONE, -1);
    }

    /** Nothing is there yet, so every question about a gantry, a passage, a trip or an invoice is refused. */
    private static void newObjectRefuses() {
        Supplier<FreeFlowToll> made = FreeFlowToll::new;
        Bounds.badArgument("parse(1)", made, x -> x.parse(1));
        Bounds.badArgument("routeLinks", made, x -> x.routeLinks(0, 0, 0));
        Bounds.badArgument("routePrice", made, x -> x.routePrice(0, 0, 0));
        Bounds.badArgument("routeGantry", made, x -> x.routeGantry(0, 0, 0, 0));
        Bounds.badArgument("readTag", made, x -> x.readTag(0, 0, 0, 0));
        Bounds.badArgument("readPlate", made, x -> x.readPlate(0, 0, 0, 1, 1));
        Bounds.badArgument("readAxles", made, x -> x.readAxles(0, 0, 0, 2));
        Bounds.badIndex("passageGantry", made, x -> x.passageGantry(0));
        Bounds.badIndex("passageTime", made, x -> x.passageTime(0));
        Bounds.badIndex("passageTag", made, x -> x.passageTag(0));
        Bounds.badIndex("passagePlate", made, x -> x.passagePlate(0));
        Bounds.badIndex("passageAxles", made, x -> x.passageAxles(0));
        Bounds.badIndex("votes", made, x -> x.votes(0, 1));
        Bounds.badIndex("exceptions", made, x -> x.exceptions(0));
        Bounds.badIndex("passageState", made, x -> x.passageState(0));
        Bounds.badIndex("tripOf", made, x -> x.tripOf(0));
        Bounds.badIndex("assignPlate", made, x -> x.assignPlate(0, 1));
        Bounds.badIndex("assignAxles", made, x -> x.assignAxles(0, 2));
        Bounds.badIndex("dismiss", made, x -> x.dismiss(0));
        Bounds.badIndex("tripAmount", made, x -> x.tripAmount(0));
        Bounds.badIndex("tripClass", made, x -> x.tripClass(0));
        Bounds.badIndex("tripPassages", made, x -> x.tripPassages(0));
        Bounds.badIndex("tripState", made, x -> x.tripState(0));
        Bounds.badIndex("invoiceOf", made, x -> x.invoiceOf(0));
        Bounds.badIndex("dispute", made, x -> x.dispute(0));
        Bounds.badIndex("resolve", made, x -> x.resolve(0, true));
        Bounds.badIndex("invoiceTag", made, x -> x.invoiceTag(0));
        Bounds.badIndex("invoicePlate", made, x -> x.invoicePlate(0));
        Bounds.badIndex("invoiceTotal", made, x -> x.invoiceTotal(0));
        Bounds.badIndex("balance", made, x -> x.balance(0));
        Bounds.badIndex("pay", made, x -> x.pay(0, 1));
    }

    /**
     * "The input buffer holds at most 900 bytes." "NONE, with nothing appended, if the buffer would have
     * more than 900 bytes."
     */
    private static void bufferOf900() {
        FreeFlowToll x = new FreeFlowToll();
        String text = TWO + " ".repeat(880) + "fee 5000;";
        Check.due("a text of 900 bytes", Check.appendText(x, text), 900);
        Check.due("a 46th append", x.append(0x3f3f3f3f, 0, 0, 0, 0), -1);
        Check.due("a 47th append", x.append(0x3f3f3f3f, 0, 0, 0, 0), -1);
        Check.dueThrow("parse(901)", IllegalArgumentException.class, () -> x.parse(901));
        Check.due("all of the 900 bytes", x.parse(900), 0);
        x.readPlate(0, 0, 0, 5, 100);
        Check.due("the last statement counts", x.previewTotal(0), 5000);
        Check.due("append again", x.append(0, 0, 0, 0, 0), 20);

        Bounds.changesNothing("append to a full buffer", () -> {
            FreeFlowToll full = Bounds.busy();
            Check.appendText(full, text);
            return full;
        }, full -> full.append(0x3f3f3f3f, 0x3f3f3f3f, 0x3f3f3f3f, 0x3f3f3f3f, 0x3f3f3f3f));

        FreeFlowToll y = new FreeFlowToll();
        Check.appendText(y, " ".repeat(899) + "?");
        Check.due("an error at the last byte", y.parse(900), Check.error(899, 1));
        Check.appendText(y, " ".repeat(900));
        Check.due("an early end of 900 bytes", y.parse(900), Check.error(900, 1));
        Check.appendText(y, " ".repeat(880));
        Check.due("880 bytes and 20 more", y.append(0, 0, 0, 0, 0), 900);
    }

    /** "Returns the new length of the buffer" */
    private static void newLength() {
        FreeFlowToll x = new FreeFlowToll();
        for (int length = 20; length <= 900; length += 20) {
            Check.due("append up to " + length, x.append(0, 0, 0, 0, 0), length);
        }
        Check.due("append beyond 900", x.append(0, 0, 0, 0, 0), -1);
    }

    /** "the four bytes of a, then those of b, c, d and e, each with the most significant byte first" */
    private static void orderOfBytes() {
        for (int at = 0; at < 20; at++) {
            for (int sign : new int[] {0, 127, 128, 255}) {
                FreeFlowToll x = new FreeFlowToll();
                int[] words = new int[5];
                for (int i = 0; i < 20; i++) {
                    words[i / 4] = words[i / 4] << 8 | (i == at ? sign : 32);
                }
                x.append(words[0], words[1], words[2], words[3], words[4]);
                Check.due("the byte " + sign + " at " + at, x.parse(20), Check.error(at, 1));
            }
        }
    }

    /** "number of bytes, 0 to the length of the buffer"; "if length is out of range (the buffer stays as it is)" */
    private static void parseLength() {
        Bounds.argument("parse of an empty buffer", 0, 0, FreeFlowToll::new, (x, length) -> x.parse(length));
        Bounds.argument("parse of 20 bytes", 0, 20, () -> {
            FreeFlowToll x = Bounds.busy();
            x.append(0, 0, 0, 0, 0);
            return x;
        }, (x, length) -> x.parse(length));
        Bounds.argument("parse of 880 bytes", 0, 880, () -> {
            FreeFlowToll x = Bounds.busy();
            Check.appendText(x, " ".repeat(880));
            return x;
        }, (x, length) -> x.parse(length));
        FreeFlowToll x = new FreeFlowToll();
        Check.appendText(x, TWO + "link 1 0 2 3;");
        Check.dueThrow("parse(-1)", IllegalArgumentException.class, () -> x.parse(-1));
        Check.dueThrow("parse(41)", IllegalArgumentException.class, () -> x.parse(41));
        Check.due("the text is still there", x.parse(24), 1);
    }

    /** "0 gives the empty network" */
    private static void parseNothing() {
        for (int bytes : new int[] {0, 20, 900}) {
            FreeFlowToll x = Bounds.busy();
            Check.appendText(x, TWO + " ".repeat(Math.max(0, bytes - 11)));
            if (bytes == 0) {
                x.parse(11);
            }
            Check.due("parse(0)", x.parse(0), 0);
            Check.same("parse(0) gives the empty network", Bounds.answers(x), Bounds.answers(new FreeFlowToll()));
            Check.due("nothing to undo", x.undo(), -1);
            Check.due("slot 0 is empty", x.restoreSnapshot(0), false);
            Check.dueThrow("the buffer is empty", IllegalArgumentException.class, () -> x.parse(1));
            Check.dueThrow("no gantry", IllegalArgumentException.class, () -> x.readAxles(0, 0, 99999, 2));
        }
        Bounds.fails(" ^", 1);
        Bounds.fails("\n^", 1);
    }

    /** "Parses the first length bytes of the input buffer as a network and replaces the current one by it." */
    private static void firstBytesOnly() {
        String text = "gantries 3;link 0 1 9 100;?";
        int[] lengths = {26, 11, 25, 24, 12};
        int[] due = {1, 0, Check.error(25, 1), Check.error(24, 1), Check.error(11, 1)};
        for (int n = 0; n < lengths.length; n++) {
            FreeFlowToll x = new FreeFlowToll();
            Check.appendText(x, text);
            Check.due("parse(" + lengths[n] + ")", x.parse(lengths[n]), due[n]);
        }
    }

    /** "After a success or a syntax error the buffer is empty." */
    private static void bufferIsEmptyAfter() {
        for (String text : new String[] {TWO, TWO + "?", "?" + " ".repeat(899), TWO + " ".repeat(889)}) {
            FreeFlowToll x = new FreeFlowToll();
            Check.parse(x, text);
            Check.dueThrow("parse(1) of what is left", IllegalArgumentException.class, () -> x.parse(1));
            Check.due("append to what is left", x.append(0x67616e74, 0x72696573, 0x20343b00, 0, 0), 20);
            Check.due("parse of what was appended", x.parse(11), 0);
            Check.due("the new network", x.gantryCount(), 4);
        }
    }

    /**
     * "Bytes 32 (space) and 10 (line feed) are white space; they may stand between tokens and are otherwise
     * ignored."
     */
    private static void whiteSpace() {
        Bounds.parses("gantries2;link0 1 9 5;class2 100;tag5 2;window1;confidence1;fee1;", 1);
        Bounds.parses(" \n  gantries \n 2\n;\n\nlink\n0\n1\n9\n5\n;\n ", 1);
        Bounds.fails("^gan tries 2;", 1);
        Bounds.fails("gantries ^1 0;", 2);
        Bounds.fails("gantries 2\n^0;", 1);
        Bounds.fails("gantries 2;^li\nnk 0 1 9 5;", 1);
        Bounds.fails("gantries 2;link 01 ^9 5;", 2);
    }

    /** "Any other byte, and any longer run, is an illegal token that starts at its first byte." */
    private static void everyByte() {
        for (int sign = 0; sign < 256; sign++) {
            boolean white = sign == 32 || sign == 10;
            boolean digit = sign >= '0' && sign <= '9';
            boolean letter = sign >= 'a' && sign <= 'z';
            int due = white || digit ? 0 : Check.error(letter ? 11 : 14, 1);
            Check.due("the byte " + sign + " after a word",
                    Check.parse(new FreeFlowToll(), TWO + "fee" + (char) sign + "1;"), due);
            due = white ? 0 : digit ? Check.error(9, 2) : Check.error(sign == ';' ? 11 : 10, 1);
            Check.due("the byte " + sign + " after a number",
                    Check.parse(new FreeFlowToll(), "gantries 2" + (char) sign + ";"), due);
            Check.due("the byte " + sign + " after a semicolon",
                    Check.parse(new FreeFlowToll(), TWO + (char) sign), white ? 0 : Check.error(11, 1));
        }
    }

    /** "a word (a maximal run of lower-case letters a to z, 1 to 10 letters long)" */
    private static void lengthOfWords() {
        Bounds.parses(TWO + "confidence 1;", 0);
        Bounds.fails(TWO + "^confidencea 1;", 1);
        Bounds.fails(TWO + "^aconfidence 1;", 1);
        Bounds.fails(TWO + "^confidenc 1;", 1);
        Bounds.fails(TWO + "^f 1;", 1);
        Bounds.fails(TWO + "^feefee 1;", 1);
        Bounds.fails(TWO + "^" + "z".repeat(800), 1);
        Bounds.fails("gantries ^confidenceconfidence", 1);
    }

    /** "a number (a maximal run of digits, 1 to 4 digits long)" */
    private static void lengthOfNumbers() {
        Bounds.parses("gantries 0002;link 0000 0001 0120 5000;", 1);
        Bounds.parses("gantries 2;fee 0;", 0);
        Bounds.fails("gantries ^00002;", 1);
        Bounds.fails(TWO + "link 0 1 ^00120 5;", 1);
        Bounds.fails(TWO + "fee ^00000;", 1);
        Bounds.fails(TWO + "fee ^05000;", 1);
        Bounds.fails(TWO + "tag ^10000 2;", 1);
        Bounds.fails(TWO + "fee ^4294967297;", 1);
        Bounds.fails(TWO + "fee ^18446744073709551617;", 1);
        Bounds.fails(TWO + "fee ^" + "0".repeat(800), 1);
    }

    /** "if the text ends too early, the offset is the length of the text" */
    private static void earlyEnd() {
        String text = "gantries 2;fee 7;";
        int[] offsets = {0, 0, 0, 0, 0, 0, 0, 8, 9, 10, -1, 11, 11, 14, 15, 16, -1};
        for (int length = 1; length <= text.length(); length++) {
            FreeFlowToll x = new FreeFlowToll();
            Check.appendText(x, text);
            int offset = offsets[length - 1];
            Check.due("the first " + length + " bytes", x.parse(length), offset < 0 ? 0 : Check.error(offset, 1));
        }
        String[] parts = {"link", " 0", " 1", " 9", " 5"};
        String cut = TWO;
        for (String part : parts) {
            cut += part;
            Bounds.fails(cut + "^", 1);
            Bounds.fails(cut + " \n^", 1);
        }
        for (String end : new String[] {"class", "class 2", "class 2 5", "tag", "tag 5", "tag 5 2", "window",
            "window 1", "confidence", "confidence 1", "fee", "fee 1"}) {
            Bounds.fails(TWO + end + "^", 1);
        }
        Bounds.fails("gantries 2 ^", 1);
    }

    /** "an illegal token, or a token that cannot continue a network" */
    private static void cannotContinue() {
        Bounds.fails("^2;", 1);
        Bounds.fails("^;", 1);
        Bounds.fails("^fee 1;", 1);
        Bounds.fails("gantries ^gantries;", 1);
        Bounds.fails("gantries ^;", 1);
        Bounds.fails("gantries 2 ^fee 1;", 1);
        Bounds.fails("gantries 2 ^2;", 1);
        Bounds.fails("gantries 2;^gantries 2;", 1);
        Bounds.fails("gantries 2;^2;", 1);
        Bounds.fails("gantries 2;^;", 1);
        Bounds.fails("gantries 2;fee 1;^;", 1);
        for (String word : new String[] {"link 0 1 9 5", "class 2 5", "tag 5 2", "window 1", "confidence 1", "fee 1"}) {
            Bounds.fails(TWO + word + " ^1;", 1);
            Bounds.fails(TWO + word + " ^fee;", 1);
            Bounds.fails(TWO + word + " ^?", 1);
            for (int at = word.indexOf(' '); at >= 0; at = word.indexOf(' ', at + 1)) {
                Bounds.fails(TWO + word.substring(0, at) + " ^;", 1);
                Bounds.fails(TWO + word.substring(0, at) + " ^tag;", 1);
                Bounds.fails(TWO + word.substring(0, at) + " ^-1;", 1);
            }
        }
    }

    /** All unquoted items are numbers, and the quoted ones just these words: no letter is another one. */
    private static void almostTheWord() {
        String[] statements = {"link 0 1 9 5;", "class 2 5;", "tag 5 2;", "window 1;", "confidence 1;", "fee 1;"};
        for (String statement : statements) {
            int letters = statement.indexOf(' ');
            Bounds.parses(TWO + statement, statement.startsWith("link") ? 1 : 0);
            for (int at = 0; at < letters; at++) {
                String other = statement.charAt(at) == 'z' ? "y" : "z";
                fallsAt(11, TWO + statement.substring(0, at) + other + statement.substring(at + 1));
                fallsAt(11, TWO + statement.substring(0, at) + statement.substring(at + 1));
            }
        }
        for (int at = 0; at < 8; at++) {
            fallsAt(0, TWO.substring(0, at) + "z" + TWO.substring(at + 1));
            fallsAt(0, TWO.substring(0, at) + TWO.substring(at + 1));
        }
    }

    private static void fallsAt(int offset, String text) {
        Check.due("parse " + text, Check.parse(new FreeFlowToll(), text), Check.error(offset, 1));
    }

    /** "network = "gantries" count ";" { statement ";" }": there may be no statement, and they come in any order. */
    private static void statementsOrNone() {
        Bounds.parses(TWO, 0);
        Bounds.parses(TWO + "fee 1;tag 5 2;class 2 5;link 0 1 9 5;tag 6 2;confidence 1;link 1 0 9 5;window 1;", 2);
    }

    /** "a number that is out of its range": # marks a number left open, whose range is tried on both sides. */
    private static void range(String open, int low, int high) {
        int links = open.contains("link") ? 1 : 0;
        String before = open.substring(0, open.indexOf('#'));
        String after = open.substring(open.indexOf('#') + 1);
        Bounds.parses(before + low + after, links);
        Bounds.parses(before + high + after, links);
        if (low > 0) {
            Bounds.fails(before + "^" + (low - 1) + after, 2);
            Bounds.fails(before + "^0" + after, 2);
        }
        if (high < 9999) {
            Bounds.fails(before + "^" + (high + 1) + after, 2);
            Bounds.fails(before + "^9999" + after, 2);
        }
        Bounds.fails(before + "^-1" + after, 1);
        Bounds.fails(before + "^10000" + after, 1);
    }

    /** "count 2 to 10" */
    private static void countRange() {
        range("gantries #;", 2, 10);
    }

    /** "from and to 0 to count - 1; the minutes of a link 1 to 120; price 1 to 5000" */
    private static void linkRanges() {
        range("gantries 3;link # 1 9 5;", 0, 2);
        range("gantries 3;link 1 # 9 5;", 0, 2);
        for (int count = 2; count <= 10; count++) {
            int last = count - 1;
            String head = "gantries " + count + ";link ";
            Bounds.parses(head + "0 " + last + " 9 5;", 1);
            Bounds.parses(head + last + " 0 9 5;", 1);
            Bounds.fails(head + "^" + count + " 0 9 5;", 2);
            Bounds.fails(head + "0 ^" + count + " 9 5;", 2);
        }
        range("gantries 2;link 0 1 # 5;", 1, 120);
        range("gantries 2;link 0 1 9 #;", 1, 5000);
        for (int minutes : new int[] {1, 120}) {
            FreeFlowToll x = Check.with("gantries 2;link 0 1 " + minutes + " 5;");
            Check.due(minutes + " minutes", x.routeLinks(0, 1, minutes), 1);
            Check.due(minutes + " minutes and one more", x.routeLinks(0, 1, minutes + 1), -1);
        }
        for (int price : new int[] {1, 5000}) {
            Check.due("price", Check.with("gantries 2;link 0 1 9 " + price + ";").routePrice(0, 1, 9), price);
        }
    }

    /** "the axles of a class 2 to 9 [..]; percent 1 to 900" */
    private static void classRanges() {
        range("gantries 2;class # 5;", 2, 9);
        range("gantries 2;class 2 #;", 1, 900);
        int[] percents = {1, 900};
        int[] amounts = {50, 45000};
        for (int n = 0; n < 2; n++) {
            FreeFlowToll x = Check.with("gantries 2;link 0 1 9 5000;class 2 " + percents[n] + ";tag 5 2;");
            x.readTag(0, 0, 0, 0);
            Check.due("the amount for " + percents[n] + " percent", x.previewTotal(0), amounts[n]);
        }
    }

    /** "and greater than those of the previous class" */
    private static void risingClasses() {
        for (int before = 2; before <= 9; before++) {
            String head = "gantries 2;class " + before + " 5;class ";
            if (before < 9) {
                Bounds.parses(head + (before + 1) + " 5;", 0);
            }
            Bounds.fails(head + "^" + before + " 5;", 2);
            Bounds.fails(head + "^" + (before - 1) + " 5;", 2);
            Bounds.fails(head + "^10 5;", 2);
        }
        Bounds.parses("gantries 2;class 6 5;class 7 5;class 8 5;class 9 5;", 0);
        Bounds.fails("gantries 2;class 3 5;class 6 5;class ^4 5;", 2);
        Bounds.fails("gantries 2;class 3 5;class 6 5;class ^6 5;", 2);
    }

    /** "plate 1 to 9999; the axles of a tag 2 to 9" */
    private static void tagRanges() {
        range("gantries 2;tag # 2;", 1, 9999);
        range("gantries 2;tag 5 #;", 2, 9);
        for (int axles = 2; axles <= 9; axles += 7) {
            FreeFlowToll x = Check.with("gantries 2;class 2 5;class 9 6;tag 9999 " + axles + ";");
            x.readPlate(0, 0, 0, 9999, 100);
            x.bill(0);
            Check.due("the class of a tag with " + axles + " axles", x.tripClass(0), axles == 2 ? 0 : 1);
            Check.due("the plate of the tag", x.invoiceTag(0), 0);
        }
    }

    /** "the minutes of window 0 to 10 [..]; sum 1 to 300 [..]; cents 0 to 5000" */
    private static void settingRanges() {
        range("gantries 2;window #;", 0, 10);
        range("gantries 2;confidence #;", 1, 300);
        range("gantries 2;fee #;", 0, 5000);
        for (int window = 0; window <= 10; window++) {
            FreeFlowToll x = Check.with("gantries 2;window " + window + ";");
            x.readAxles(0, 0, 50, 2);
            Check.due("the last minute of window " + window, x.readAxles(0, 0, 50 + window, 2), 0);
            Check.due("the first minute after window " + window, x.readAxles(0, 0, 51 + window, 2), 1);
        }
        FreeFlowToll x = Check.with("gantries 2;confidence 1;");
        x.readPlate(0, 0, 0, 5, 1);
        Check.due("confidence 1", x.passagePlate(0), 5);
        FreeFlowToll y = Check.with("gantries 2;confidence 300;");
        y.readPlate(0, 0, 0, 5, 100);
        y.readPlate(0, 0, 0, 5, 100);
        y.readPlate(0, 0, 0, 5, 99);
        Check.due("299 of 300", y.passagePlate(0), -1);
        y.readPlate(0, 0, 0, 5, 1);
        Check.due("300 of 300", y.passagePlate(0), 5);
        for (int fee : new int[] {0, 1, 5000}) {
            FreeFlowToll z = Check.with("gantries 2;fee " + fee + ";");
            z.readPlate(0, 0, 0, 5, 100);
            Check.due("fee " + fee, z.previewTotal(0), fee);
        }
    }

    /** "(1 without the statement)", "(60 without it)", "(0 without it)" */
    private static void withoutSettings() {
        FreeFlowToll x = Check.with(TWO);
        Check.due("a first reading", x.readPlate(0, 0, 50, 5, 59), 0);
        Check.due("59 of 60", x.passagePlate(0), -1);
        Check.due("a minute later", x.readPlate(0, 0, 51, 5, 1), 0);
        Check.due("60 of 60", x.passagePlate(0), 5);
        Check.due("no fee", x.previewTotal(51), 0);
        Check.due("two minutes later", x.readPlate(0, 0, 52, 5, 1), 1);
    }

    /** "(1 without the statement)", "(60 without it)", "(0 without it)": also after networks that had them. */
    private static void withoutSettingsAgain() {
        FreeFlowToll x = new FreeFlowToll();
        for (int n = 0; n < 3; n++) {
            Check.due("with all", Check.parse(x, "gantries 3;link 0 1 9 5;link 2 0 9 3;class 2 50;tag 5 2;window 9;"
                    + "confidence 9;fee 9;"), 2);
            x.readPlate(0, 0, 50, 7, 9);
            Check.due("confidence 9", x.passagePlate(0), 7);
            Check.due("window 9", x.readPlate(0, 0, 59, 7, 9), 0);
            Check.due("fee 9, half of 3", x.previewTotal(59), 10);
        }
        for (int n = 0; n < 3; n++) {
            Check.due("without", Check.parse(x, "gantries 3;link 0 1 9 8;"), 1);
            x.readPlate(0, 0, 50, 7, 59);
            Check.due("confidence 60", x.passagePlate(0), -1);
            Check.due("window 1", x.readPlate(0, 0, 51, 7, 1), 0);
            Check.due("confidence 60", x.passagePlate(0), 7);
            Check.due("no fee, no class, no old link", x.previewTotal(51), 8);
            Check.due("window 1", x.readPlate(2, 0, 51, 7, 60), 1);
            Check.due("window 1", x.readPlate(2, 0, 53, 7, 60), 2);
            Check.due("no old links", x.previewTotal(53), 8);
            Check.due("no old route", x.routeLinks(2, 0, 0), -1);
        }
    }

    /** Different links among ten gantries. */
    private static String links(int count) {
        StringBuilder s = new StringBuilder();
        for (int n = 0; n < count; n++) {
            s.append("link ").append(n % 10).append(' ').append((n % 10 + 1 + n / 10) % 10).append(" 9 5;");
        }
        return s.toString();
    }

    private static String tags(int count) {
        StringBuilder s = new StringBuilder();
        for (int n = 0; n < count; n++) {
            s.append("tag ").append(100 + n).append(" 2;");
        }
        return s.toString();
    }

    /** "There are at most 24 links"; "the word link [..] of a statement of which there are too many" */
    private static void linkLimit() {
        Bounds.parses("gantries 10;" + links(1), 1);
        Bounds.parses("gantries 10;" + links(23), 23);
        Bounds.parses("gantries 10;" + links(24), 24);
        Bounds.fails("gantries 10;" + links(24) + "^link 9 0 9 5;", 4);
        Bounds.fails("gantries 10;" + links(24) + "\n ^link", 4);
        Bounds.fails("gantries 10;" + links(24) + "^link 0 1 9 5;", 4);
        Bounds.fails("gantries 10;" + links(24) + "^link 0 0 0 0;", 4);
        Bounds.fails("gantries 10;" + links(24) + "fee 5;tag 5 2;^link 9 0 9 5;", 4);
        Bounds.fails("gantries 10;" + links(24) + "^linkk 9 0 9 5;", 1);
        Bounds.parses("gantries 10;" + links(24) + "tag 5 2;class 2 5;fee 0;window 0;confidence 1;", 24);
    }

    /** "There are at most [..] 4 classes" */
    private static void classLimit() {
        String four = "gantries 2;class 2 5;class 3 5;class 4 5;class 5 5;";
        Bounds.parses(four, 0);
        Bounds.fails(four + "^class 6 5;", 4);
        Bounds.fails(four + "^class 5 5;", 4);
        Bounds.fails(four + "^class", 4);
        Bounds.fails(four + "tag 5 2;link 0 1 9 5;^class 9 900;", 4);
        FreeFlowToll x = Check.with(four);
        Check.due("the fourth class", x.classOf(9), 3);
    }

    /** "There are at most [..] 12 tags" */
    private static void tagLimit() {
        Bounds.parses(TWO + tags(11), 0);
        Bounds.parses(TWO + tags(12), 0);
        Bounds.fails(TWO + tags(12) + "^tag 112 2;", 4);
        Bounds.fails(TWO + tags(12) + "^tag 100 2;", 4);
        Bounds.fails(TWO + tags(12) + "^tag", 4);
        Bounds.fails(TWO + tags(12) + "class 2 5;link 0 1 9 5;^tag 5 2;", 4);
        FreeFlowToll x = Check.with(TWO + tags(12));
        Check.due("the twelfth tag", x.readTag(0, 0, 0, 11), 0);
        x.bill(0);
        Check.due("its plate", x.invoicePlate(0), 111);
    }

    /** All of the limits at once. */
    private static void fullestNetwork() {
        String text = "gantries 10;" + links(24) + "class 6 5;class 7 5;class 8 5;class 9 5;" + tags(12)
                + "window 10;confidence 300;fee 5000;";
        Bounds.parses(text, 24);
        FreeFlowToll x = Check.with(text);
        Check.due("gantryCount", x.gantryCount(), 10);
        Check.due("tagCount", x.tagCount(), 12);
        Check.due("classOf", x.classOf(9), 3);
        Check.due("the last link", x.routePrice(3, 6, 9), 5);
        Bounds.fails(text + "^link 9 0 9 5;", 4);
        Bounds.fails(text + "^class 9 5;", 4);
        Bounds.fails(text + "^tag 5 2;", 4);
        Bounds.fails(text + "^window 1;", 3);
        Bounds.fails(text + "^confidence 1;", 3);
        Bounds.fails(text + "^fee 1;", 3);
    }

    /**
     * "The statements window, confidence and fee can each occur once."; "the word of a second window,
     * confidence or fee statement"
     */
    private static void settingsOnce() {
        for (String word : new String[] {"window", "confidence", "fee"}) {
            String once = TWO + word + " 1;";
            Bounds.parses(once, 0);
            Bounds.fails(once + "^" + word + " 1;", 3);
            Bounds.fails(once + "^" + word + " 9999;", 3);
            Bounds.fails(once + "^" + word, 3);
            Bounds.fails(once + "^" + word + " ?", 3);
            Bounds.fails(once + "tag 5 2; \n^" + word + " 1;", 3);
        }
        Bounds.fails("gantries 2;window 0;^window 0;", 3);
        Bounds.fails("gantries 2;fee 0;^fee 0;", 3);
        Bounds.fails("gantries 2;window 1;fee 1;confidence 1;^window 1;", 3);
        Bounds.fails("gantries 2;window 1;fee 1;confidence 1;^fee 1;", 3);
        Bounds.fails("gantries 2;window 1;fee 1;confidence 1;^confidence 1;", 3);
    }

    /** "the number to of a link, if it equals from or if an earlier link has the same from and to" */
    private static void repeatedLinks() {
        Bounds.fails("gantries 2;link 0 ^0 9 5;", 3);
        Bounds.fails("gantries 2;link 1 ^1 9 5;", 3);
        Bounds.fails("gantries 10;link 9 ^0009 9 5;", 3);
        Bounds.fails("gantries 3;link 0 1 9 5;link 0 ^1 8 6;", 3);
        Bounds.fails("gantries 3;link 2 1 9 5;link 0 1 9 5;link 2 0 9 5;link 2 ^1 9 5;", 3);
        Bounds.fails("gantries 10;link 9 8 9 5;link 9 ^8 9 5;", 3);
        Bounds.fails("gantries 2;link 0 1 1 1;link 0 ^1 1 1;", 3);
        Bounds.parses("gantries 3;link 0 1 9 5;link 1 0 9 5;link 0 2 9 5;link 2 1 9 5;", 4);
        Bounds.parses("gantries 10;link 0 1 9 5;link 1 0 9 5;link 0 9 9 5;link 9 0 9 5;link 1 9 9 5;", 5);
    }

    /** "the plate of a tag, if an earlier tag has this plate" */
    private static void repeatedPlates() {
        Bounds.fails("gantries 2;tag 5 2;tag ^5 2;", 3);
        Bounds.fails("gantries 2;tag 5 2;tag 6 2;tag 7 2;tag ^0005 9;", 3);
        Bounds.fails("gantries 2;tag 9999 2;tag 1 2;tag ^1 2;", 3);
        Bounds.fails(TWO + tags(11) + "tag ^110 2;", 3);
        Bounds.fails("gantries 2;tag 5 2;tag ^0 2;", 2);
        Bounds.parses("gantries 2;tag 5 2;tag 6 2;tag 4 2;tag 9999 5;tag 1 5;", 0);
    }

    /** "The parser reports the error with the lowest byte offset" */
    private static void lowestOffset() {
        Bounds.fails("gantries ^1;?", 2);
        Bounds.fails("gantries ^11;link 0 0 0 0;", 2);
        Bounds.fails("gantries 2;link ^2 2 0 0;", 2);
        Bounds.fails("gantries 2;link 0 ^2 0 0;", 2);
        Bounds.fails("gantries 2;link 0 ^0 0 0?", 3);
        Bounds.fails("gantries 2;link 0 1 ^0 0?", 2);
        Bounds.fails("gantries 2;link 0 1 9 ^0", 2);
        Bounds.fails("gantries 2;tag 5 2;tag ^5 10", 3);
        Bounds.fails("gantries 2;tag 5 ^10", 2);
        Bounds.fails("gantries 2;class 3 5;class ^3 0", 2);
        Bounds.fails("gantries 2;window ^11;window 1;", 2);
        Bounds.fails("gantries 2;^x;gantries 1;", 1);
        Bounds.fails("gantries 10;" + links(24) + "^link 0 0 9999 ?", 4);
    }

    /** "of several kinds at one offset the lowest": a number that is too long is illegal, whatever its value. */
    private static void lowestKind() {
        Bounds.fails("gantries ^99999;", 1);
        Bounds.fails("gantries 2;link 0 ^00000 9 5;", 1);
        Bounds.fails("gantries 2;link 0 1 9 5;link 0 ^00001 9 5;", 1);
        Bounds.fails("gantries 2;tag 5 2;tag ^00005 2;", 1);
        Bounds.fails("gantries 2;class 3 5;class ^3 5;", 2);
        Bounds.fails("gantries 2;fee 1;^feee 1;", 1);
    }

    /** "-2 - (8 * offset + kind) for a syntax error": from the first offset to the last, and each kind. */
    private static void answerOfAnError() {
        String[] texts = {"?", " ".repeat(900), "gantries 1;", "gantries 2;fee 1;fee 1;",
            TWO + tags(12) + "tag 5 2;", " ".repeat(899) + "?", " ".repeat(886) + "gantries 2;fee",
            " ".repeat(880) + "gantries 2;fee 5001", " ".repeat(880) + "gantries 2;link 0 0"};
        int[] due = {-3, -7203, -76, -141, -2 - (8 * 131 + 4), -7195, -2 - (8 * 900 + 1), -2 - (8 * 895 + 2),
            -2 - (8 * 898 + 3)};
        for (int n = 0; n < texts.length; n++) {
            Check.due("parse " + texts[n].trim(), Check.parse(new FreeFlowToll(), texts[n]), due[n]);
        }
    }

    /** "Links, classes and tags are numbered from 0, each in the order of the text.": anew in each text. */
    private static void countedAnew() {
        String full = "gantries 10;" + links(24) + "class 6 5;class 7 5;class 8 5;class 9 5;" + tags(12)
                + "window 1;confidence 1;fee 1;";
        FreeFlowToll x = new FreeFlowToll();
        for (int n = 0; n < 4; n++) {
            Check.due("a full text", Check.parse(x, full), 24);
            Check.due("a full text with an error", Check.parse(x, full + "?"), Check.error(full.length(), 1));
            Check.due("a text with one of each", Check.parse(x,
                    "gantries 2;link 0 1 9 5;class 2 5;tag 100 2;window 1;confidence 1;fee 1;"), 1);
            Check.due("its gantries", x.gantryCount(), 2);
            Check.due("its tags", x.tagCount(), 1);
            Check.due("its classes", x.classOf(9), 0);
            Check.due("its links", x.routeLinks(1, 0, 0), -1);
        }
    }

    /** "After a syntax error everything else stays as it is." */
    private static void errorLeavesAll() {
        String head = "gantries 9;tag 1 2;tag 2 2;tag 3 2;window 9;confidence 9;fee 9;class 2 9;class 3 9;";
        Bounds.fails(head + "^oops", 1);
        Bounds.fails(head + "tag 4 ^1;", 2);
        Bounds.fails(head + "link 8 0 9 5;link 8 ^0 9 5;", 3);
        Bounds.fails(head + "class 4 9;class 5 9;^class 6 9;", 4);
        FreeFlowToll x = Bounds.busy();
        Check.parse(x, "gantries 2;window 0;confidence 300;fee 1;oops");
        Check.due("the window stays", x.readPlate(2, 3, 43, 9, 50), 5);
        Check.due("the window stays", x.readPlate(2, 3, 44, 9, 50), 6);
        Check.due("the confidence stays", x.passagePlate(6), 9);
        Check.due("the fee stays", x.invoiceTotal(1), 57);
    }

    /**
     * "A successful parse removes all passages, trips and invoices (readings may begin at time 0 again), clears
     * the undo history and empties both slots."
     */
    private static void successRemovesAll() {
        FreeFlowToll x = Bounds.busy();
        x.saveSnapshot(1);
        Check.due("the same network again", Check.parse(x, Bounds.NETWORK), 2);
        Check.same("as a new object with this network", Bounds.answers(x), Bounds.answers(Check.with(Bounds.NETWORK)));
        Check.due("nothing to undo", x.undo(), -1);
        Check.due("slot 0", x.restoreSnapshot(0), false);
        Check.due("slot 1", x.restoreSnapshot(1), false);
        Check.due("time 0 again", Bounds.earliest(x), 0);
        Check.due("passage 0 again", x.readPlate(2, 1, 0, 9, 60), 0);
        Check.due("no old votes", x.votes(0, 5), 0);
        Check.due("trip 0 again", x.bill(0), 1);
        Check.due("invoice 0 again", x.invoiceOf(0), 0);
        Check.due("no old payments", x.balance(0), 57);
        Check.due("no old disputes", x.dispute(0), 1);
        Check.due("three changes", x.undo(), 2);
    }

    /** "A successful parse removes all passages, trips and invoices": new ones have nothing of the old ones. */
    private static void nothingStays() {
        FreeFlowToll x = Check.with(Bounds.NETWORK);
        for (int p = 0; p < 2; p++) {
            for (int plate = 1; plate <= 4; plate++) {
                x.readPlate(p, 0, 10, plate, 90);
            }
            x.readAxles(p, 0, 10, 9);
            x.readTag(p, 0, 10, p);
            x.assignPlate(p, 44);
            x.assignAxles(p, 8);
        }
        x.bill(10);
        x.pay(0, 1);
        x.pay(1, 1);
        x.dispute(0);
        x.dispute(1);
        Check.due("parse", Check.parse(x, Bounds.NETWORK), 2);
        for (int p = 0; p < 2; p++) {
            Check.due("a new passage", x.readPlate(2, p, 0, 5 + p, 60), p);
            for (int plate = 0; plate <= 4; plate++) {
                Check.due("no old votes", x.votes(p, plate), 0);
            }
            Check.due("its votes", x.votes(p, 5 + p), 60);
            Check.due("no old tag", x.passageTag(p), -1);
            Check.due("no old plate", x.passagePlate(p), 5 + p);
            Check.due("no old axles", x.passageAxles(p), -1);
            Check.due("open", x.passageState(p), 0);
            Check.due("no old trip", x.tripOf(p), -1);
        }
        Check.due("two trips", x.bill(0), 2);
        for (int n = 0; n < 2; n++) {
            Check.due("no old dispute", x.tripState(n), 0);
            Check.due("no old payment", x.balance(n), 57);
        }
    }

    /** "Returns the number of gantries.", "Returns the number of tags.", "Returns the number of links" */
    private static void counts() {
        for (int count = 2; count <= 10; count++) {
            Check.due("gantryCount", Check.with("gantries " + count + ";").gantryCount(), count);
        }
        for (int count = 0; count <= 12; count++) {
            Check.due("tagCount", Check.with(TWO + tags(count)).tagCount(), count);
        }
        for (int count = 0; count <= 24; count++) {
            Check.due("parse", Check.parse(new FreeFlowToll(), "gantries 10;" + links(count)), count);
        }
    }

    /** "tags are numbered from 0, [..] in the order of the text" */
    private static void numbersOfTags() {
        FreeFlowToll x = Check.with("gantries 2;tag 9 2;fee 1;tag 3 2;tag 7 2;");
        int[] plates = {9, 3, 7};
        for (int tag = 0; tag < 3; tag++) {
            x.readPlate(0, tag, 0, plates[tag], 60);
        }
        x.bill(0);
        for (int tag = 0; tag < 3; tag++) {
            Check.due("invoiceTag(" + tag + ")", x.invoiceTag(tag), tag);
            Check.due("invoicePlate(" + tag + ")", x.invoicePlate(tag), plates[tag]);
        }
    }

    /** Promise 6: "axles: 2 to 9"; "the last class whose axles are not greater than this number; there may be none" */
    private static void classOfAxles() {
        Bounds.argument("classOf", 2, 9, Bounds::busy, (x, axles) -> x.classOf(axles));
        Bounds.argument("classOf without a network", 2, 9, FreeFlowToll::new, (x, axles) -> x.classOf(axles));
        for (int first = 2; first <= 9; first++) {
            FreeFlowToll x = Check.with("gantries 2;class " + first + " 5;");
            for (int axles = 2; axles <= 9; axles++) {
                Check.due("classOf(" + axles + ") from " + first, x.classOf(axles), axles < first ? -1 : 0);
            }
        }
        FreeFlowToll x = Check.with("gantries 2;class 3 5;class 4 5;class 6 5;class 9 5;");
        int[] due = {-1, 0, 1, 1, 2, 2, 2, 3};
        for (int axles = 2; axles <= 9; axles++) {
            Check.due("classOf(" + axles + ")", x.classOf(axles), due[axles - 2]);
        }
    }
}
