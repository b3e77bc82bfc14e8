/** Promises 22 to 35 (trips and invoices) and 42 to 45 (billing, payments, disputes). */
public final class BillingTest {
    private static final String NETWORK = "gantries 4;link 0 1 10 101;link 1 2 10 150;link 2 3 10 33;link 3 0 10 70;"
            + "class 3 150;class 5 255;tag 11 3;tag 22 2;fee 7;";
    private static final int[] FAR = {Integer.MIN_VALUE, Integer.MAX_VALUE};

    public static void main(String[] args) {
        chains();
        elapsedTimes();
        inferredGantries();
        classesOfTrips();
        rounding();
        loneGantry();
        onlyConsidered();
        orderOfInvoices();
        vehicles();
        secondBilling();
        tripNumbers();
        fortyInvoices();
        eightyTrips();
        noChange();
        wrongCutoffs();
        noSuchTrip();
        noSuchInvoice();
        payments();
        disputes();
        credits();
        Check.end("BillingTest");
    }

    private static void trip(FreeFlowToll x, int t, int invoice, int amount, int tripClass, int passages) {
        Check.due("29 invoiceOf(" + t + ")", x.invoiceOf(t), invoice);
        Check.due("25 tripAmount(" + t + ")", x.tripAmount(t), amount);
        Check.due("26 tripClass(" + t + ")", x.tripClass(t), tripClass);
        Check.due("27 tripPassages(" + t + ")", x.tripPassages(t), passages);
        Check.due("28 tripState(" + t + ")", x.tripState(t), 0);
    }

    private static void invoice(FreeFlowToll x, int i, int tag, int plate, int total) {
        Check.due("31 invoiceTag(" + i + ")", x.invoiceTag(i), tag);
        Check.due("32 invoicePlate(" + i + ")", x.invoicePlate(i), plate);
        Check.due("33 invoiceTotal(" + i + ")", x.invoiceTotal(i), total);
        Check.due("34 balance(" + i + ")", x.balance(i), total);
    }

    private static void billed(FreeFlowToll x, int cutoff, int trips, int total) {
        int before = x.outstanding();
        Check.due("22 previewTrips(" + cutoff + ")", x.previewTrips(cutoff), trips);
        Check.due("23 previewTotal(" + cutoff + ")", x.previewTotal(cutoff), total);
        Check.due("42 bill(" + cutoff + ")", x.bill(cutoff), trips);
        Check.due("35 outstanding", x.outstanding(), before + total);
        Check.due("22 previewTrips after billing", x.previewTrips(cutoff), 0);
        Check.due("23 previewTotal after billing", x.previewTotal(cutoff), 0);
    }

    private static void chains() {
        FreeFlowToll x = Check.with(NETWORK);
        x.readTag(0, 0, 100, 1);
        x.readTag(1, 0, 110, 1);
        x.readTag(2, 0, 115, 1);
        x.readTag(2, 1, 116, 1);
        x.readTag(1, 1, 147, 1);
        billed(x, 147, 3, 101 + 150 + 33 + 101);
        trip(x, 0, 0, 251, -1, 3);
        trip(x, 1, 0, 33, -1, 1);
        trip(x, 2, 0, 101, -1, 1);
        invoice(x, 0, 1, 22, 385);
        Check.due("24 tripCount", x.tripCount(), 3);
        Check.due("30 invoiceCount", x.invoiceCount(), 1);
        int[] trips = {0, 0, 0, 1, 2};
        for (int p = 0; p < 5; p++) {
            Check.due("19 tripOf(" + p + ")", x.tripOf(p), trips[p]);
            Check.due("18 passageState(" + p + ")", x.passageState(p), 1);
        }
    }

    private static void elapsedTimes() {
        FreeFlowToll x = Check.with("gantries 2;link 0 1 10 40;link 1 0 10 50;tag 5 2;");
        x.readTag(0, 0, 0, 0);
        x.readTag(1, 0, 10, 0);
        x.readTag(0, 0, 21, 0);
        x.readTag(1, 0, 21, 0);
        x.readTag(0, 0, 50, 0);
        x.readTag(1, 0, 81, 0);
        Check.due("42 in time and too late", x.bill(99999), 2);
        // One link, three links for eleven minutes, one link, three links for 29 minutes.
        trip(x, 0, 0, 40 + 140 + 40 + 140, -1, 5);
        trip(x, 1, 0, 40, -1, 1);
        Check.due("19 29 minutes are in time for three links", x.tripOf(4), 0);
        Check.due("19 31 minutes are too late", x.tripOf(5), 1);
        FreeFlowToll y = Check.with("gantries 2;link 0 1 10 40;link 1 0 10 50;tag 5 2;");
        y.readTag(0, 0, 0, 0);
        y.readTag(0, 1, 20, 0);
        y.readTag(0, 1, 41, 0);
        Check.due("42 back at the same gantry", y.bill(99999), 2);
        trip(y, 0, 0, 90, -1, 2);
        trip(y, 1, 0, 40, -1, 1);
    }

    private static void inferredGantries() {
        FreeFlowToll x = Check.with(NETWORK);
        x.readPlate(0, 0, 5, 44, 60);
        x.readPlate(3, 0, 35, 44, 60);
        x.readPlate(1, 0, 36, 44, 60);
        x.readPlate(0, 0, 37, 44, 60);
        billed(x, 99999, 1, 284 + 171 + 253 + 7);
        trip(x, 0, 0, 708, -1, 4);
        invoice(x, 0, -1, 44, 715);
    }

    private static void classesOfTrips() {
        FreeFlowToll x = Check.with("gantries 2;link 0 1 10 100;link 1 0 10 100;class 3 200;class 4 300;class 7 400;"
                + "tag 5 4;tag 6 2;");
        x.readTag(0, 0, 10, 0);
        x.readTag(0, 1, 10, 1);
        x.readPlate(0, 2, 10, 99, 60);
        x.readAxles(0, 2, 10, 3);
        x.readTag(1, 0, 11, 0);
        x.readAxles(1, 0, 11, 2);
        x.readTag(1, 1, 11, 1);
        x.readPlate(1, 2, 11, 99, 60);
        x.readAxles(1, 2, 11, 9);
        x.readTag(0, 0, 12, 0);
        x.readPlate(0, 2, 12, 99, 60);
        x.readTag(0, 0, 500, 0);
        x.readPlate(0, 2, 500, 99, 60);
        Check.due("42 bill", x.bill(99999), 5);
        trip(x, 0, 0, 200, -1, 3);
        trip(x, 1, 0, 300, 1, 1);
        trip(x, 2, 1, 100, -1, 2);
        trip(x, 3, 2, 800, 2, 3);
        trip(x, 4, 2, 100, -1, 1);
    }

    private static void rounding() {
        FreeFlowToll x = Check.with("gantries 3;link 0 1 10 33;link 1 2 10 33;link 2 0 10 1;class 2 50;tag 5 2;fee 3;");
        x.readTag(0, 0, 1, 0);
        x.readTag(1, 0, 2, 0);
        x.readTag(2, 0, 3, 0);
        x.readPlate(0, 1, 4, 6, 60);
        x.readPlate(2, 1, 5, 6, 60);
        x.readPlate(2, 1, 500, 7, 60);
        Check.due("42 bill", x.bill(99999), 3);
        trip(x, 0, 0, 16 + 16, 0, 3);
        trip(x, 1, 1, 33, 0, 2);
        trip(x, 2, 2, 0, 0, 1);
        invoice(x, 0, 0, 5, 32);
        invoice(x, 1, -1, 6, 36);
        invoice(x, 2, -1, 7, 3);
        FreeFlowToll y = Check.with("gantries 4;link 0 1 9 5000;link 1 2 9 5000;link 2 3 9 5000;class 2 900;tag 5 2;");
        y.readTag(0, 0, 1, 0);
        y.readTag(3, 0, 2, 0);
        Check.due("42 bill", y.bill(2), 1);
        trip(y, 0, 0, 135000, 0, 2);
    }

    private static void loneGantry() {
        FreeFlowToll x = Check.with("gantries 4;link 0 1 9 80;link 2 0 9 60;link 0 2 9 70;class 2 150;tag 5 2;");
        x.readTag(3, 0, 1, 0);
        x.readTag(0, 0, 2, 0);
        x.readTag(1, 0, 900, 0);
        x.readTag(2, 0, 901, 0);
        billed(x, 99999, 4, 90 + 120 + 90);
        trip(x, 0, 0, 0, 0, 1);
        trip(x, 1, 0, 90, 0, 1);
        trip(x, 2, 0, 120, 0, 1);
        trip(x, 3, 0, 90, 0, 1);
        FreeFlowToll y = Check.with("gantries 2;fee 9;");
        y.readPlate(0, 0, 0, 5, 60);
        billed(y, 0, 1, 9);
        trip(y, 0, 0, 0, -1, 1);
        invoice(y, 0, -1, 5, 9);
    }

    private static void onlyConsidered() {
        FreeFlowToll x = Check.with(NETWORK);
        x.readTag(0, 0, 100, 1);
        x.readTag(1, 0, 101, 1);
        x.readTag(2, 0, 102, 1);
        x.readAxles(3, 0, 102, 4);
        x.readTag(3, 1, 103, 1);
        x.dismiss(1);
        Check.due("22 nothing before the first", x.previewTrips(99), 0);
        Check.due("22 the cutoff itself counts", x.previewTrips(100), 1);
        Check.due("23 the cutoff itself counts", x.previewTotal(100), 70);
        Check.due("23 a dismissed passage is passed over", x.previewTotal(102), 251);
        billed(x, 102, 1, 251);
        trip(x, 0, 0, 251, -1, 2);
        Check.due("18 no vehicle", x.passageState(3), 0);
        Check.due("18 after the cutoff", x.passageState(4), 0);
        Check.due("20 openPassages", x.openPassages(), 2);
        Check.due("19 dismissed", x.tripOf(1), -1);
    }

    private static void orderOfInvoices() {
        FreeFlowToll x = Check.with(NETWORK);
        x.readPlate(1, 0, 10, 99, 60);
        x.readTag(0, 0, 11, 0);
        x.readPlate(0, 1, 12, 44, 60);
        x.readPlate(3, 0, 300, 99, 60);
        x.readTag(1, 0, 301, 0);
        x.readTag(2, 0, 302, 0);
        billed(x, 99999, 5, 101 + 33 + 7 + 105 + 225 + 70 + 7);
        trip(x, 0, 0, 101, -1, 1);
        trip(x, 1, 0, 33, -1, 1);
        trip(x, 2, 1, 105, 0, 1);
        trip(x, 3, 1, 225, 0, 2);
        trip(x, 4, 2, 70, -1, 1);
        invoice(x, 0, -1, 99, 141);
        invoice(x, 1, 0, 11, 330);
        invoice(x, 2, -1, 44, 77);
        int[] trips = {0, 2, 4, 1, 3, 3};
        for (int p = 0; p < 6; p++) {
            Check.due("19 tripOf(" + p + ")", x.tripOf(p), trips[p]);
        }
    }

    private static void vehicles() {
        FreeFlowToll x = Check.with(NETWORK);
        x.readPlate(0, 0, 10, 22, 60);
        x.readTag(1, 0, 12, 1);
        x.readPlate(1, 0, 12, 99, 60);
        x.readAxles(2, 0, 14, 2);
        x.assignPlate(2, 22);
        x.readPlate(3, 0, 15, 99, 60);
        billed(x, 99999, 2, 251 + 33 + 7);
        trip(x, 0, 0, 251, -1, 3);
        trip(x, 1, 1, 33, -1, 1);
        invoice(x, 0, 1, 22, 251);
        invoice(x, 1, -1, 99, 40);
    }

    private static void secondBilling() {
        FreeFlowToll x = Check.with(NETWORK);
        x.readTag(0, 0, 10, 1);
        x.readTag(1, 0, 11, 1);
        billed(x, 10, 1, 70);
        billed(x, 99999, 1, 101);
        trip(x, 0, 0, 70, -1, 1);
        trip(x, 1, 1, 101, -1, 1);
        invoice(x, 0, 1, 22, 70);
        invoice(x, 1, 1, 22, 101);
        Check.due("30 an invoice for each billing", x.invoiceCount(), 2);
        Check.due("19 tripOf(0)", x.tripOf(0), 0);
        Check.due("19 tripOf(1)", x.tripOf(1), 1);
    }

    private static void tripNumbers() {
        FreeFlowToll x = Check.with(NETWORK);
        x.readTag(3, 0, 0, 0);
        x.readTag(3, 1, 1, 1);
        x.bill(1);
        x.readTag(2, 0, 900, 1);
        x.readTag(2, 1, 901, 0);
        x.readTag(1, 1, 990, 1);
        Check.due("42 bill", x.bill(990), 3);
        trip(x, 2, 2, 33, -1, 1);
        trip(x, 3, 2, 101, -1, 1);
        trip(x, 4, 3, 49, 0, 1);
        invoice(x, 2, 1, 22, 134);
        invoice(x, 3, 0, 11, 49);
    }

    private static void fortyInvoices() {
        FreeFlowToll x = Check.with("gantries 2;link 0 1 9 10;fee 1;");
        for (int n = 0; n < 41; n++) {
            x.readPlate(n % 2, 0, 10 * n, 100 + n, 60);
        }
        Check.badState("42 41 invoices", () -> x.bill(400));
        Check.badState("42 41 invoices", () -> x.bill(99999));
        Check.badArgument("42 the cutoff comes first", () -> x.bill(100000));
        Check.due("22 40 trips", x.previewTrips(399), 40);
        Check.due("23 40 totals", x.previewTotal(399), 440);
        Check.due("22 41 trips", x.previewTrips(400), 41);
        Check.due("23 41 totals", x.previewTotal(400), 451);
        Check.due("42 40 invoices", x.bill(399), 40);
        Check.due("30 40 invoices", x.invoiceCount(), 40);
        Check.due("35 outstanding", x.outstanding(), 440);
        Check.badState("42 a 41st invoice", () -> x.bill(400));
        Check.due("42 nothing to be considered", x.bill(399), 0);
        Check.due("43 the last invoice", x.pay(39, 4), 7);
        Check.due("32 the last invoice", x.invoicePlate(39), 139);
        Check.due("what throws is no change", x.undo(), 9);
        Check.due("46 undo the billing", x.undo(), 8);
        Check.due("30 no invoices", x.invoiceCount(), 0);
    }

    private static void eightyTrips() {
        FreeFlowToll x = Check.with("gantries 2;link 0 1 9 10;tag 1 2;");
        for (int n = 0; n < 80; n++) {
            x.readTag(0, 0, 10 * n, 0);
        }
        billed(x, 99999, 80, 800);
        Check.due("24 tripCount", x.tripCount(), 80);
        Check.due("30 invoiceCount", x.invoiceCount(), 1);
        trip(x, 79, 0, 10, -1, 1);
        Check.due("19 tripOf(79)", x.tripOf(79), 79);
        Check.due("44 the last trip", x.dispute(79), 1);
        Check.due("45 the last trip", x.resolve(79, true), 790);
        FreeFlowToll y = Check.with("gantries 2;link 0 1 9 10;fee 2;");
        for (int n = 0; n < 80; n++) {
            y.readPlate(0, 0, 10 * n, 1 + n, 60);
        }
        Check.due("22 80 vehicles", y.previewTrips(99999), 80);
        Check.due("23 80 vehicles", y.previewTotal(99999), 960);
        Check.badState("42 80 invoices", () -> y.bill(99999));
    }

    private static void noChange() {
        FreeFlowToll x = Check.with(NETWORK);
        x.readTag(0, 0, 10, 1);
        x.readAxles(1, 0, 10, 2);
        Check.due("42 nothing before the cutoff", x.bill(9), 0);
        Check.due("42 bill", x.bill(10), 1);
        Check.due("42 nothing to be considered", x.bill(10), 0);
        Check.due("42 nothing to be considered", x.bill(99999), 0);
        Check.due("42 an empty bill is no change", x.undo(), 2);
        Check.due("24 the bill was undone", x.tripCount(), 0);
        Check.due("42 cutoff 0", x.bill(0), 0);
        Check.due("42 a new object", new FreeFlowToll().bill(99999), 0);
    }

    private static void wrongCutoffs() {
        FreeFlowToll x = Check.with(NETWORK);
        x.readTag(0, 0, 0, 1);
        for (int cutoff : new int[] {-1, 100000, FAR[0], FAR[1]}) {
            Check.badArgument("22 previewTrips(" + cutoff + ")", () -> x.previewTrips(cutoff));
            Check.badArgument("23 previewTotal(" + cutoff + ")", () -> x.previewTotal(cutoff));
            Check.badArgument("42 bill(" + cutoff + ")", () -> x.bill(cutoff));
        }
        Check.due("22 previewTrips(0)", x.previewTrips(0), 1);
        Check.due("23 previewTotal(99999)", x.previewTotal(99999), 70);
        Check.due("what throws is no change", Check.undoAll(x), 1);
    }

    private static void noSuchTrip() {
        FreeFlowToll x = Check.with(NETWORK);
        x.readTag(0, 0, 1, 0);
        x.readTag(0, 0, 500, 0);
        x.bill(500);
        for (int t : new int[] {-1, 2, 79, 80, FAR[0], FAR[1]}) {
            Check.badIndex("25 tripAmount(" + t + ")", () -> x.tripAmount(t));
            Check.badIndex("26 tripClass(" + t + ")", () -> x.tripClass(t));
            Check.badIndex("27 tripPassages(" + t + ")", () -> x.tripPassages(t));
            Check.badIndex("28 tripState(" + t + ")", () -> x.tripState(t));
            Check.badIndex("29 invoiceOf(" + t + ")", () -> x.invoiceOf(t));
            Check.badIndex("44 dispute(" + t + ")", () -> x.dispute(t));
            Check.badIndex("45 resolve(" + t + ", true)", () -> x.resolve(t, true));
            Check.badIndex("45 resolve(" + t + ", false)", () -> x.resolve(t, false));
        }
        Check.due("what throws is no change", Check.undoAll(x), 3);
    }

    private static void noSuchInvoice() {
        FreeFlowToll x = Check.with(NETWORK);
        x.readTag(0, 0, 1, 0);
        x.readTag(0, 0, 500, 0);
        x.bill(500);
        for (int i : new int[] {-1, 1, 39, 40, FAR[0], FAR[1]}) {
            Check.badIndex("31 invoiceTag(" + i + ")", () -> x.invoiceTag(i));
            Check.badIndex("32 invoicePlate(" + i + ")", () -> x.invoicePlate(i));
            Check.badIndex("33 invoiceTotal(" + i + ")", () -> x.invoiceTotal(i));
            Check.badIndex("34 balance(" + i + ")", () -> x.balance(i));
            Check.badIndex("43 pay(" + i + ", 1)", () -> x.pay(i, 1));
            Check.badIndex("43 pay(" + i + ", 0)", () -> x.pay(i, 0));
        }
        Check.due("what throws is no change", Check.undoAll(x), 3);
    }

    private static void payments() {
        FreeFlowToll x = Check.with(NETWORK);
        x.readTag(0, 0, 10, 1);
        x.readPlate(1, 0, 10, 99, 60);
        x.bill(10);
        Check.due("35 outstanding", x.outstanding(), 70 + 108);
        Check.due("43 pay(0, 1)", x.pay(0, 1), 69);
        Check.due("43 pay(0, 69)", x.pay(0, 69), 0);
        Check.due("35 outstanding", x.outstanding(), 108);
        Check.due("43 pay(1, 100000)", x.pay(1, 100000), -99892);
        Check.due("34 balance(1)", x.balance(1), -99892);
        Check.due("33 a payment leaves the total", x.invoiceTotal(1), 108);
        Check.due("35 a negative balance does not count", x.outstanding(), 0);
        Check.due("43 pay(0, 30)", x.pay(0, 30), -30);
        for (int cents : new int[] {0, -1, 100001, FAR[0], FAR[1]}) {
            Check.badArgument("43 pay(0, " + cents + ")", () -> x.pay(0, cents));
        }
        Check.due("46 undo the payment", x.undo(), 6);
        Check.due("34 balance(0)", x.balance(0), 0);
        x.readTag(2, 0, 400, 1);
        x.bill(400);
        Check.due("34 a new invoice has no payments", x.balance(2), 33);
        Check.due("35 outstanding", x.outstanding(), 33);
    }

    private static void disputes() {
        FreeFlowToll x = Check.with(NETWORK);
        x.readTag(0, 0, 10, 1);
        x.readTag(0, 0, 500, 1);
        x.readTag(1, 0, 500, 0);
        x.bill(500);
        Check.badState("45 not disputed", () -> x.resolve(0, true));
        Check.due("44 dispute(2)", x.dispute(2), 1);
        Check.due("44 dispute(0)", x.dispute(0), 2);
        Check.due("28 disputed", x.tripState(0), 1);
        Check.badState("44 disputed", () -> x.dispute(0));
        Check.due("45 confirmed", x.resolve(0, false), 140 + 0);
        Check.due("28 confirmed", x.tripState(0), 3);
        Check.badState("44 confirmed", () -> x.dispute(0));
        Check.badState("45 confirmed", () -> x.resolve(0, false));
        Check.due("44 resolved trips do not count", x.dispute(1), 2);
        Check.due("45 credited", x.resolve(2, true), 0);
        Check.due("28 credited", x.tripState(2), 2);
        Check.badState("44 credited", () -> x.dispute(2));
        Check.badState("45 credited", () -> x.resolve(2, true));
        Check.due("what throws is no change", Check.undoAll(x), 9);
    }

    private static void credits() {
        FreeFlowToll x = Check.with(NETWORK);
        x.readPlate(0, 0, 10, 99, 60);
        x.readPlate(0, 0, 500, 99, 60);
        x.readPlate(2, 0, 500, 98, 60);
        x.bill(500);
        x.pay(0, 100);
        x.dispute(1);
        Check.due("33 a disputed trip counts", x.invoiceTotal(0), 147);
        Check.due("45 credited, with payments", x.resolve(1, true), -23);
        Check.due("33 a credited trip does not count", x.invoiceTotal(0), 77);
        Check.due("25 a credited trip keeps its amount", x.tripAmount(1), 70);
        Check.due("34 balance(0)", x.balance(0), -23);
        Check.due("35 outstanding", x.outstanding(), 40);
        x.dispute(0);
        Check.due("45 the fee stays", x.resolve(0, true), -93);
        Check.due("33 the fee stays", x.invoiceTotal(0), 7);
        x.dispute(2);
        Check.due("45 the balance of the trip's own invoice", x.resolve(2, false), 40);
    }
}
