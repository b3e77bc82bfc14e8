import java.util.function.Supplier;

/**
 * The boundary cases of the sections CLASSES (prices) and BILLING and of promises 22 to 35 and 42 to 45.
 * Above each test stand the words of the document that it is for.
 */
public final class BoundsOfBillingTest {
    public static void main(String[] args) {
        cutoffs();
        notLaterThanCutoff();
        openWithVehicle();
        continuesTrip();
        oneBeforeIt();
        ascendingOrder();
        axlesOfTrip();
        noAxlesKnown();
        classOfTrip();
        roundedDown();
        sumOfLegs();
        onePassage();
        noLinks();
        orderOfInvoices();
        numbersGoOn();
        fortyInvoices();
        fortyInvoicesOfOneVehicle();
        cutoffComesFirst();
        eightyTrips();
        greatestTrip();
        exactlyOnce();
        noChange();
        previews();
        statesOfTrips();
        totals();
        vehiclesOfInvoices();
        fees();
        balances();
        outstanding();
        noSuchTrip();
        noSuchInvoice();
        payments();
        disputes();
        resolutions();
        Check.end("BoundsOfBillingTest");
    }

    private static void trip(FreeFlowToll x, int t, int invoice, int amount, int tripClass, int passages) {
        Check.due("invoiceOf(" + t + ")", x.invoiceOf(t), invoice);
        Check.due("tripAmount(" + t + ")", x.tripAmount(t), amount);
        Check.due("tripClass(" + t + ")", x.tripClass(t), tripClass);
        Check.due("tripPassages(" + t + ")", x.tripPassages(t), passages);
        Check.due("tripState(" + t + ")", x.tripState(t), 0);
    }

    private static void billed(FreeFlowToll x, int cutoff, int trips, int total) {
        Check.due("previewTrips(" + cutoff + ")", x.previewTrips(cutoff), trips);
        Check.due("previewTotal(" + cutoff + ")", x.previewTotal(cutoff), total);
        int before = x.outstanding();
        Check.due("bill(" + cutoff + ")", x.bill(cutoff), trips);
        Check.due("outstanding", x.outstanding(), before + total);
    }

    /** "cutoff: 0 to 99999"; "if cutoff is out of range" */
    private static void cutoffs() {
        Bounds.argument("previewTrips", 0, 99999, Bounds::busy, (x, cutoff) -> x.previewTrips(cutoff));
        Bounds.argument("previewTotal", 0, 99999, Bounds::busy, (x, cutoff) -> x.previewTotal(cutoff));
        Bounds.argument("bill", 0, 99999, Bounds::busy, (x, cutoff) -> x.bill(cutoff));
        Bounds.argument("previewTrips of nothing", 0, 99999, FreeFlowToll::new, (x, cutoff) -> x.previewTrips(cutoff));
        Bounds.argument("previewTotal of nothing", 0, 99999, FreeFlowToll::new, (x, cutoff) -> x.previewTotal(cutoff));
        Bounds.argument("bill of nothing", 0, 99999, FreeFlowToll::new, (x, cutoff) -> x.bill(cutoff));
    }

    /** "whose time is not later than the cutoff" */
    private static void notLaterThanCutoff() {
        for (int time : new int[] {0, 1, 500, 99998, 99999}) {
            FreeFlowToll x = Check.with("gantries 2;link 0 1 9 10;window 0;");
            x.readPlate(0, 0, time, 5, 60);
            if (time > 0) {
                billed(x, time - 1, 0, 0);
                Check.due("still open", x.passageState(0), 0);
            }
            billed(x, time, 1, 10);
            Check.due("billed", x.passageState(0), 1);
        }
        FreeFlowToll x = Check.with("gantries 2;link 0 1 9 10;window 2;");
        x.readPlate(0, 0, 100, 5, 60);
        x.readPlate(0, 0, 102, 5, 60);
        billed(x, 99, 0, 0);
        billed(x, 100, 1, 10);
    }

    /** "It considers all open passages that have a vehicle" */
    private static void openWithVehicle() {
        FreeFlowToll x = Check.with("gantries 2;link 0 1 9 10;tag 11 2;");
        x.readTag(0, 0, 0, 0);
        x.readPlate(0, 1, 0, 5, 59);
        x.readAxles(0, 2, 0, 2);
        x.readTag(0, 3, 0, 0);
        x.dismiss(3);
        billed(x, 0, 1, 10);
        int[] states = {1, 0, 0, 2};
        for (int p = 0; p < 4; p++) {
            Check.due("passageState(" + p + ")", x.passageState(p), states[p]);
            Check.due("tripOf(" + p + ")", x.tripOf(p), p == 0 ? 0 : -1);
        }
        billed(x, 99999, 0, 0);
        x.assignPlate(1, 5);
        billed(x, 0, 1, 10);
    }

    /** "if there is a route for the two gantries and the time between"; "otherwise it begins a new trip" */
    private static void continuesTrip() {
        String network = "gantries 5;link 0 1 10 1;link 1 2 20 2;link 2 3 30 4;link 3 4 40 8;tag 5 2;";
        int[] minutes = {10, 30, 60};
        int[] prices = {1, 3, 7};
        for (int links = 1; links <= 3; links++) {
            for (int first : new int[] {0, 1000}) {
                FreeFlowToll x = Check.with(network);
                x.readTag(0, 0, first, 0);
                x.readTag(links, 0, first + minutes[links - 1], 0);
                billed(x, 99999, 1, prices[links - 1]);
                trip(x, 0, 0, prices[links - 1], -1, 2);
                FreeFlowToll late = Check.with(network);
                late.readTag(0, 0, first, 0);
                late.readTag(links, 0, first + minutes[links - 1] + 1, 0);
                Check.due("a minute too late", late.bill(99999), 2);
                Check.due("the first trip", late.tripOf(0), 0);
                Check.due("the second trip", late.tripOf(1), 1);
                Check.due("one invoice", late.invoiceCount(), 1);
            }
        }
        FreeFlowToll far = Check.with(network);
        far.readTag(0, 0, 0, 0);
        far.readTag(4, 0, 1, 0);
        far.readTag(3, 0, 2, 0);
        Check.due("four links, and against the direction", far.bill(99999), 3);
        FreeFlowToll back = Check.with("gantries 2;link 0 1 10 1;link 1 0 10 2;tag 5 2;window 0;");
        back.readTag(0, 0, 0, 0);
        back.readTag(0, 0, 20, 0);
        back.readTag(0, 0, 41, 0);
        billed(back, 99999, 2, 3 + 1);
        trip(back, 0, 0, 3, -1, 2);
        trip(back, 1, 0, 1, -1, 1);
    }

    /** "the one before it": of the same vehicle and considered; its trip may be long over. */
    private static void oneBeforeIt() {
        FreeFlowToll x = Check.with("gantries 3;link 0 1 10 1;link 1 2 10 2;link 0 2 5 50;tag 5 2;tag 6 2;");
        x.readTag(0, 0, 0, 0);
        x.readTag(0, 1, 0, 1);
        x.readTag(1, 0, 4, 0);
        x.readTag(2, 1, 5, 1);
        x.readTag(2, 0, 6, 0);
        billed(x, 6, 2, 3 + 50);
        trip(x, 0, 0, 3, -1, 3);
        trip(x, 1, 1, 50, -1, 2);
        FreeFlowToll y = Check.with("gantries 3;link 0 1 10 1;link 1 2 10 2;link 0 2 5 50;tag 5 2;");
        y.readTag(0, 0, 0, 0);
        y.readTag(1, 0, 4, 0);
        y.readTag(2, 0, 5, 0);
        y.dismiss(1);
        billed(y, 5, 1, 50);
        trip(y, 0, 0, 50, -1, 2);
        FreeFlowToll z = Check.with("gantries 3;link 0 1 10 7;link 1 2 10 2;tag 5 2;");
        z.readTag(0, 0, 0, 0);
        z.bill(0);
        z.readTag(1, 0, 4, 0);
        billed(z, 4, 1, 2);
        Check.due("a billed one is no longer before it", z.tripOf(1), 1);
    }

    /** "in ascending order of their numbers": also of one time. */
    private static void ascendingOrder() {
        FreeFlowToll x = Check.with("gantries 3;link 0 1 10 1;link 1 2 10 2;tag 5 2;");
        x.readTag(0, 0, 7, 0);
        x.readTag(1, 0, 7, 0);
        x.readTag(2, 0, 7, 0);
        billed(x, 7, 1, 3);
        FreeFlowToll y = Check.with("gantries 3;link 0 1 10 1;link 1 2 10 2;tag 5 2;");
        y.readTag(2, 0, 7, 0);
        y.readTag(1, 0, 7, 0);
        y.readTag(0, 0, 7, 0);
        billed(y, 7, 3, 2 + 1 + 1);
    }

    private static final String CLASSES = "gantries 2;link 0 1 10 100;link 1 0 10 100;class 3 200;class 4 300;"
            + "class 7 400;tag 11 4;tag 22 2;";

    /** "The axles of a trip are the greatest known axles of its passages" */
    private static void axlesOfTrip() {
        int[][] axles = {{3, -1, -1}, {-1, 3, -1}, {-1, -1, 3}, {9, 2, 3}, {2, 9, 3}, {2, 3, 9}, {2, -1, 2}, {6, 7, 6}};
        int[] due = {0, 0, 0, 2, 2, 2, -1, 2};
        int[] amounts = {400, 400, 400, 800, 800, 800, 200, 800};
        for (int n = 0; n < axles.length; n++) {
            FreeFlowToll x = Check.with(CLASSES);
            for (int p = 0; p < 3; p++) {
                x.readTag(p % 2, 0, 10 * p, 0);
                if (axles[n][p] > 0) {
                    x.readAxles(p % 2, 0, 10 * p, axles[n][p]);
                }
            }
            Check.due("one trip", x.bill(99999), 1);
            trip(x, 0, 0, amounts[n], due[n], 3);
        }
        FreeFlowToll x = Check.with(CLASSES);
        x.readTag(0, 0, 0, 0);
        x.readAxles(0, 0, 0, 9);
        x.assignAxles(0, 3);
        x.readTag(0, 0, 500, 0);
        x.bill(99999);
        trip(x, 0, 0, 200, 0, 1);
        trip(x, 1, 0, 300, 1, 1);
    }

    /** "if none are known, those of the tag, or 2 if the vehicle is a plate" */
    private static void noAxlesKnown() {
        FreeFlowToll x = Check.with(CLASSES);
        x.readTag(0, 0, 0, 0);
        x.readTag(0, 1, 0, 1);
        x.readPlate(0, 2, 0, 99, 60);
        x.readPlate(0, 3, 500, 11, 60);
        x.bill(500);
        trip(x, 0, 0, 300, 1, 1);
        trip(x, 1, 0, 300, 1, 1);
        trip(x, 2, 1, 100, -1, 1);
        trip(x, 3, 2, 100, -1, 1);
        FreeFlowToll y = Check.with("gantries 2;link 0 1 10 100;class 2 50;class 3 200;tag 11 9;");
        y.readPlate(0, 0, 0, 99, 60);
        y.readTag(0, 1, 0, 0);
        y.bill(0);
        trip(y, 0, 0, 50, 0, 1);
        trip(y, 1, 1, 200, 1, 1);
    }

    /** "The class of the trip is the class for them."; "NONE if there is none" */
    private static void classOfTrip() {
        int[] due = {-1, 0, 1, 1, 1, 2, 2, 2};
        int[] amounts = {100, 200, 300, 300, 300, 400, 400, 400};
        for (int axles = 2; axles <= 9; axles++) {
            FreeFlowToll x = Check.with(CLASSES);
            x.readPlate(0, 0, 0, 99, 60);
            x.readAxles(0, 0, 0, axles);
            x.bill(0);
            trip(x, 0, 0, amounts[axles - 2], due[axles - 2], 1);
        }
    }

    /** "the price times percent / 100, rounded down; without a class the percent is 100" */
    private static void roundedDown() {
        int[] prices = {1, 1, 99, 100, 199, 3, 33, 1, 5000, 5000, 4999, 1};
        int[] percents = {1, 99, 1, 1, 1, 50, 50, 100, 1, 900, 99, 900};
        int[] due = {0, 0, 0, 1, 1, 1, 16, 1, 50, 45000, 4949, 9};
        for (int n = 0; n < prices.length; n++) {
            FreeFlowToll x = Check.with("gantries 2;link 0 1 9 " + prices[n] + ";class 3 " + percents[n] + ";");
            x.readPlate(0, 0, 0, 5, 60);
            x.readAxles(0, 0, 0, 3);
            x.readPlate(1, 0, 0, 5, 60);
            x.readPlate(0, 1, 0, 6, 60);
            x.readPlate(1, 1, 0, 6, 60);
            x.bill(0);
            trip(x, 0, 0, due[n], 0, 2);
            trip(x, 1, 1, prices[n], -1, 2);
        }
    }

    /** "the sum, over its passages but the first, of the price of the route [..], for the class of the trip" */
    private static void sumOfLegs() {
        FreeFlowToll x = Check.with("gantries 4;link 0 1 9 33;link 1 2 9 33;link 2 3 9 33;class 2 50;tag 5 2;");
        x.readTag(0, 0, 0, 0);
        x.readTag(1, 0, 1, 0);
        x.readTag(2, 0, 2, 0);
        x.readTag(3, 0, 3, 0);
        billed(x, 3, 1, 16 + 16 + 16);
        FreeFlowToll y = Check.with("gantries 4;link 0 1 9 33;link 1 2 9 33;link 2 3 9 33;class 2 50;tag 5 2;");
        y.readTag(0, 0, 0, 0);
        y.readTag(3, 0, 3, 0);
        billed(y, 3, 1, 49);
        FreeFlowToll z = Check.with("gantries 4;link 0 1 9 33;link 1 2 9 33;link 2 3 9 33;class 2 50;tag 5 2;");
        z.readTag(0, 0, 0, 0);
        z.readTag(2, 0, 3, 0);
        z.readTag(3, 0, 3, 0);
        billed(z, 3, 1, 33 + 16);
        trip(z, 0, 0, 49, 0, 3);
    }

    /** "the lowest price of the links that begin or end at its gantry, for the class of the trip" */
    private static void onePassage() {
        FreeFlowToll x = Check.with("gantries 5;link 0 1 9 80;link 2 0 9 60;link 0 2 9 70;link 1 2 9 61;link 3 2 9 59;"
                + "class 2 150;tag 5 2;");
        int[] due = {90, 91, 88, 88, 0};
        for (int gantry = 0; gantry < 5; gantry++) {
            x.readTag(gantry, 0, 1000 * gantry, 0);
        }
        billed(x, 99999, 5, 90 + 91 + 88 + 88);
        for (int gantry = 0; gantry < 5; gantry++) {
            trip(x, gantry, 0, due[gantry], 0, 1);
        }
        FreeFlowToll y = Check.with("gantries 10;link 9 0 9 5000;link 8 9 9 4999;link 0 8 9 1;tag 5 2;");
        y.readTag(9, 0, 0, 0);
        y.readTag(0, 0, 1000, 0);
        billed(y, 99999, 2, 4999 + 1);
    }

    /** "0 if there are no such links" */
    private static void noLinks() {
        FreeFlowToll x = Check.with("gantries 3;link 0 1 9 80;class 2 900;fee 0;");
        x.readPlate(2, 0, 0, 5, 60);
        billed(x, 0, 1, 0);
        trip(x, 0, 0, 0, 0, 1);
        Check.due("the total", x.invoiceTotal(0), 0);
        Check.due("the balance", x.balance(0), 0);
        FreeFlowToll y = Check.with("gantries 2;fee 5000;");
        y.readPlate(0, 0, 0, 5, 60);
        y.readPlate(0, 1, 0, 5, 60);
        billed(y, 0, 2, 5000);
    }

    /**
     * "in the order of the vehicles' first considered passages"; "(the trips of a vehicle in the order in
     * which they begin)"
     */
    private static void orderOfInvoices() {
        FreeFlowToll x = Check.with("gantries 2;link 0 1 10 10;tag 11 2;tag 22 2;");
        x.readTag(0, 0, 0, 0);
        x.readPlate(0, 1, 0, 99, 60);
        x.readTag(0, 2, 0, 1);
        x.readTag(0, 0, 100, 0);
        x.readPlate(1, 1, 105, 99, 60);
        x.readPlate(1, 2, 105, 22, 60);
        x.dismiss(0);
        billed(x, 99999, 5, 50);
        int[] tags = {-1, 1, 0};
        int[] plates = {99, 22, 11};
        for (int i = 0; i < 3; i++) {
            Check.due("invoiceTag(" + i + ")", x.invoiceTag(i), tags[i]);
            Check.due("invoicePlate(" + i + ")", x.invoicePlate(i), plates[i]);
        }
        int[] trips = {-1, 0, 2, 4, 1, 3};
        int[] invoices = {0, 0, 1, 1, 2};
        for (int p = 0; p < 6; p++) {
            Check.due("tripOf(" + p + ")", x.tripOf(p), trips[p]);
        }
        for (int t = 0; t < 5; t++) {
            Check.due("invoiceOf(" + t + ")", x.invoiceOf(t), invoices[t]);
        }
    }

    /** "numbers invoices and trips from 0 in this order": the next billing goes on, an undone one is counted again. */
    private static void numbersGoOn() {
        FreeFlowToll x = Check.with("gantries 2;link 0 1 10 10;tag 11 2;tag 22 2;");
        x.readTag(0, 0, 0, 0);
        x.readTag(0, 0, 100, 0);
        Check.due("two trips", x.bill(100), 2);
        x.readTag(0, 0, 200, 1);
        x.readTag(0, 1, 200, 0);
        Check.due("two trips more", x.bill(200), 2);
        trip(x, 2, 1, 10, -1, 1);
        trip(x, 3, 2, 10, -1, 1);
        Check.due("tripCount", x.tripCount(), 4);
        Check.due("invoiceCount", x.invoiceCount(), 3);
        Check.due("tripOf(2)", x.tripOf(2), 2);
        Check.due("invoiceTag(2)", x.invoiceTag(2), 0);
        x.undo();
        x.dismiss(2);
        Check.due("counted again", x.bill(200), 1);
        trip(x, 2, 1, 10, -1, 1);
        Check.due("invoiceTag(1)", x.invoiceTag(1), 0);
        Check.due("tripCount", x.tripCount(), 3);
    }

    // ---- limits

    private static final String SMALL = "gantries 2;link 0 1 9 10;fee 1;tag 5 2;";

    /** Passages of as many vehicles, at the times 0, 10, 20 ..; the first of them are billed. */
    private static FreeFlowToll vehicles(int count, int billed) {
        FreeFlowToll x = Check.with(SMALL);
        for (int n = 0; n < count; n++) {
            x.readPlate(0, 0, 10 * n, 101 + n, 60);
        }
        if (billed > 0) {
            x.bill(10 * (billed - 1));
        }
        return x;
    }

    /** "There are at most 40 invoices."; "if there would be more than 40 invoices" */
    private static void fortyInvoices() {
        Check.due("39 at once", vehicles(41, 0).bill(389), 39);
        FreeFlowToll x = vehicles(41, 0);
        Check.due("40 at once", x.bill(399), 40);
        Check.due("invoiceCount", x.invoiceCount(), 40);
        Check.due("invoicePlate(39)", x.invoicePlate(39), 140);
        Bounds.badState("41 at once", () -> vehicles(41, 0), y -> y.bill(400));
        Bounds.badState("80 at once", () -> vehicles(80, 0), y -> y.bill(99999));
        Bounds.badState("41 by two billings", () -> vehicles(41, 39), y -> y.bill(400));
        Bounds.badState("one more than 40", () -> vehicles(41, 40), y -> y.bill(400));
        Bounds.badState("one more than 40, at the last cutoff", () -> vehicles(80, 40), y -> y.bill(99999));
        FreeFlowToll y = vehicles(41, 39);
        Check.due("the 40th alone", y.bill(390), 1);
        Check.due("invoiceCount", y.invoiceCount(), 40);
        Check.due("nothing to be considered", y.bill(399), 0);
        Check.dueThrow("the 41st", IllegalStateException.class, () -> y.bill(400));
        y.dismiss(40);
        Check.due("nothing to be considered", y.bill(99999), 0);
        y.undo();
        y.undo();
        Check.due("undone: 39 invoices", y.invoiceCount(), 39);
        y.dismiss(39);
        Check.due("another 40th", y.bill(400), 1);
        Check.due("invoicePlate(39)", y.invoicePlate(39), 141);
        Check.due("pay the last", y.pay(39, 4), 7);
    }

    /** It is invoices that count, not vehicles. */
    private static void fortyInvoicesOfOneVehicle() {
        FreeFlowToll x = Check.with(SMALL);
        for (int n = 0; n < 40; n++) {
            x.readTag(0, 0, 10 * n, 0);
            Check.due("bill " + n, x.bill(10 * n), 1);
        }
        Check.due("invoiceCount", x.invoiceCount(), 40);
        x.readTag(0, 0, 400, 0);
        Check.dueThrow("a 41st", IllegalStateException.class, () -> x.bill(400));
        Check.due("invoiceCount", x.invoiceCount(), 40);
        Check.due("openPassages", x.openPassages(), 1);
        Check.due("undo the reading", x.undo(), 9);
        Check.due("undo the 40th", x.undo(), 8);
        Check.due("bill again", x.bill(99999), 1);
    }

    /** Promise 42: "if cutoff is out of range (checked first)" */
    private static void cutoffComesFirst() {
        for (int cutoff : new int[] {-1, 100000, Integer.MIN_VALUE, Integer.MAX_VALUE}) {
            Bounds.badArgument("bill(" + cutoff + ")", () -> vehicles(41, 0), x -> x.bill(cutoff));
            Bounds.badArgument("bill(" + cutoff + ")", () -> vehicles(41, 40), x -> x.bill(cutoff));
        }
    }

    /** There are never more trips than passages: 80. */
    private static void eightyTrips() {
        FreeFlowToll x = Check.with(SMALL);
        for (int n = 0; n < 80; n++) {
            x.readTag(0, 0, 10 * n, 0);
        }
        billed(x, 99999, 80, 800);
        Check.due("tripCount", x.tripCount(), 80);
        Check.due("invoiceCount", x.invoiceCount(), 1);
        trip(x, 79, 0, 10, -1, 1);
        Check.due("tripOf(79)", x.tripOf(79), 79);
        Check.dueThrow("trip 80", IndexOutOfBoundsException.class, () -> x.tripAmount(80));
        Check.due("dispute the last", x.dispute(79), 1);
        Check.due("resolve the last", x.resolve(79, true), 790);
    }

    /** One trip of 80 passages at the highest prices. */
    private static void greatestTrip() {
        FreeFlowToll x = Check.with("gantries 4;link 0 1 120 5000;link 1 2 120 5000;link 2 3 120 5000;"
                + "link 3 2 120 5000;link 2 1 120 5000;link 1 0 120 5000;class 9 900;tag 5 9;");
        for (int n = 0; n < 80; n++) {
            x.readTag(n % 2 * 3, 0, 360 * n, 0);
        }
        billed(x, 99999, 1, 79 * 135000);
        trip(x, 0, 0, 79 * 135000, 0, 80);
        Check.due("pay", x.pay(0, 100000), 79 * 135000 - 100000);
    }

    // ---- billing as a change

    /** "All considered passages become billed.": each of them once. */
    private static void exactlyOnce() {
        FreeFlowToll x = Check.with(SMALL);
        x.readTag(0, 0, 0, 0);
        x.readTag(1, 0, 5, 0);
        x.readPlate(0, 1, 6, 99, 60);
        billed(x, 99999, 2, 10 + 11);
        for (int p = 0; p < 3; p++) {
            Check.due("passageState(" + p + ")", x.passageState(p), 1);
        }
        billed(x, 99999, 0, 0);
        Check.due("tripCount", x.tripCount(), 2);
        Check.due("invoiceCount", x.invoiceCount(), 2);
        x.undo();
        billed(x, 99999, 2, 21);
        Check.due("tripCount", x.tripCount(), 2);
    }

    /** "If there is no passage to be considered, it is no change." */
    private static void noChange() {
        Bounds.changesNothing("bill(39)", Bounds::busy, x -> {
            Check.due("bill(39)", x.bill(39), 0);
            return 0;
        });
        Bounds.changesNothing("bill of a new object", FreeFlowToll::new, x -> x.bill(99999));
        Bounds.changesNothing("bill with 40 invoices", () -> vehicles(40, 40), x -> {
            Check.due("bill(99999)", x.bill(99999), 0);
            return 0;
        });
        Bounds.changesNothing("bill of passages without vehicles", () -> {
            FreeFlowToll x = Check.with(SMALL);
            x.readAxles(0, 0, 0, 2);
            x.readPlate(0, 1, 0, 5, 59);
            return x;
        }, x -> x.bill(99999));
        FreeFlowToll x = Bounds.busy();
        Check.due("bill(40) is a change", x.bill(40), 1);
        Check.due("that can be undone", x.undo(), 9);
        Check.due("one of ten", Check.undoAll(x), 9);
    }

    /** "that billing with this cutoff would make now"; "(fees included)" */
    private static void previews() {
        Bounds.changesNothing("previewTrips", Bounds::busy, x -> x.previewTrips(99999));
        Bounds.changesNothing("previewTotal", Bounds::busy, x -> x.previewTotal(99999));
        FreeFlowToll x = vehicles(3, 1);
        Check.due("none now", x.previewTrips(9), 0);
        Check.due("none now", x.previewTotal(9), 0);
        Check.due("one", x.previewTrips(10), 1);
        Check.due("one", x.previewTotal(10), 11);
        Check.due("two", x.previewTrips(20), 2);
        Check.due("two", x.previewTotal(20), 22);
        x.dismiss(1);
        Check.due("one", x.previewTrips(20), 1);
        Check.due("one", x.previewTotal(20), 11);
        Check.due("40 vehicles", vehicles(40, 0).previewTotal(99999), 440);
    }

    // ---- trips and invoices

    /** Invoice 0 of a plate with the trips 0, 1 and 2, invoice 1 of a tag with trip 3. */
    private static FreeFlowToll invoiced() {
        FreeFlowToll x = Check.with("gantries 2;link 0 1 9 100;fee 7;tag 5 2;");
        x.readPlate(0, 0, 0, 99, 60);
        x.readPlate(0, 0, 100, 99, 60);
        x.readPlate(0, 0, 200, 99, 60);
        x.readTag(0, 0, 300, 0);
        x.bill(300);
        return x;
    }

    private static FreeFlowToll inState(int state) {
        FreeFlowToll x = invoiced();
        if (state > 0) {
            x.dispute(1);
        }
        if (state > 1) {
            x.resolve(1, state == 2);
        }
        return x;
    }

    /** "The state of a trip is 0 (not disputed), 1 (disputed), 2 (credited) or 3 (confirmed)." */
    private static void statesOfTrips() {
        for (int state = 0; state <= 3; state++) {
            FreeFlowToll x = inState(state);
            Check.due("tripState", x.tripState(1), state);
            Check.due("the trip before", x.tripState(0), 0);
            Check.due("the trip after", x.tripState(2), 0);
        }
    }

    /** "the sum of the amounts of its trips that are not credited"; "the amount of a trip (also if it is credited)" */
    private static void totals() {
        int[] due = {307, 307, 207, 307};
        for (int state = 0; state <= 3; state++) {
            FreeFlowToll x = inState(state);
            Check.due("invoiceTotal in state " + state, x.invoiceTotal(0), due[state]);
            Check.due("balance in state " + state, x.balance(0), due[state]);
            Check.due("tripAmount in state " + state, x.tripAmount(1), 100);
            Check.due("the other invoice", x.invoiceTotal(1), 100);
            Check.due("outstanding", x.outstanding(), due[state] + 100);
        }
    }

    /** "NONE if the vehicle is a plate"; "the plate of its tag, or the plate that is the vehicle" */
    private static void vehiclesOfInvoices() {
        FreeFlowToll x = Check.with("gantries 2;link 0 1 9 100;tag 5 2;tag 6 2;");
        x.readPlate(0, 0, 0, 5, 60);
        x.readTag(0, 1, 0, 1);
        x.assignPlate(1, 5);
        x.readPlate(0, 2, 0, 7, 60);
        x.readPlate(0, 3, 0, 9999, 60);
        x.bill(0);
        int[] tags = {0, 1, -1, -1};
        int[] plates = {5, 6, 7, 9999};
        for (int i = 0; i < 4; i++) {
            Check.due("invoiceTag(" + i + ")", x.invoiceTag(i), tags[i]);
            Check.due("invoicePlate(" + i + ")", x.invoicePlate(i), plates[i]);
        }
    }

    /** "plus the cents of fee if its vehicle is a plate": once for an invoice, also if all its trips are credited. */
    private static void fees() {
        FreeFlowToll x = invoiced();
        Check.due("a plate", x.invoiceTotal(0), 307);
        Check.due("a tag", x.invoiceTotal(1), 100);
        for (int t = 0; t < 4; t++) {
            x.dispute(t);
            Check.due("credited", x.resolve(t, true), t < 3 ? 207 - 100 * t : 0);
        }
        Check.due("the fee is left", x.invoiceTotal(0), 7);
        Check.due("nothing is left", x.invoiceTotal(1), 0);
        FreeFlowToll y = Check.with("gantries 2;link 0 1 9 100;fee 5000;tag 5 2;");
        y.readPlate(0, 0, 0, 5, 60);
        billed(y, 0, 1, 100);
        y.readPlate(0, 0, 100, 6, 60);
        billed(y, 100, 1, 5100);
    }

    /** "The balance of an invoice is its total minus all payments; it may be negative." */
    private static void balances() {
        FreeFlowToll x = invoiced();
        Check.due("before", x.balance(1), 100);
        Check.due("one left", x.pay(1, 99), 1);
        Check.due("none left", x.pay(1, 1), 0);
        Check.due("one too much", x.pay(1, 1), -1);
        Check.due("much too much", x.pay(1, 100000), -100001);
        Check.due("balance", x.balance(1), -100001);
        Check.due("the total stays", x.invoiceTotal(1), 100);
        Check.due("the other invoice", x.balance(0), 307);
        x.pay(0, 307);
        x.dispute(2);
        Check.due("credited after it was paid", x.resolve(2, true), -100);
        FreeFlowToll y = invoiced();
        for (int n = 1; n <= 450; n++) {
            y.pay(0, 100000);
        }
        Check.due("450 payments", y.balance(0), 307 - 45000000);
    }

    /** "Returns the sum of the balances of all invoices with a positive balance." */
    private static void outstanding() {
        FreeFlowToll x = invoiced();
        Check.due("both", x.outstanding(), 407);
        x.pay(1, 99);
        Check.due("a balance of 1", x.outstanding(), 308);
        x.pay(1, 1);
        Check.due("a balance of 0", x.outstanding(), 307);
        x.pay(1, 1);
        Check.due("a balance of -1", x.outstanding(), 307);
        x.pay(0, 100000);
        Check.due("no positive balance", x.outstanding(), 0);
        Check.due("no invoices", Check.with(SMALL).outstanding(), 0);
        Check.due("40 invoices", vehicles(40, 40).outstanding(), 440);
    }

    /** "if there is no such trip" */
    private static void noSuchTrip() {
        Supplier<FreeFlowToll> made = BoundsOfBillingTest::invoiced;
        Bounds.index("tripAmount", 4, made, (x, t) -> x.tripAmount(t));
        Bounds.index("tripClass", 4, made, (x, t) -> x.tripClass(t));
        Bounds.index("tripPassages", 4, made, (x, t) -> x.tripPassages(t));
        Bounds.index("tripState", 4, made, (x, t) -> x.tripState(t));
        Bounds.index("invoiceOf", 4, made, (x, t) -> x.invoiceOf(t));
        Bounds.index("dispute", 4, made, (x, t) -> x.dispute(t));
        for (int t : new int[] {-1, 4, 80, Integer.MIN_VALUE, Integer.MAX_VALUE}) {
            Bounds.badIndex("resolve(" + t + ", true)", made, x -> x.resolve(t, true));
            Bounds.badIndex("resolve(" + t + ", false)", made, x -> x.resolve(t, false));
        }
        FreeFlowToll x = invoiced();
        Check.due("tripCount", x.tripCount(), 4);
        x.undo();
        Check.due("none is left", x.tripCount(), 0);
        Check.dueThrow("an undone trip", IndexOutOfBoundsException.class, () -> x.tripAmount(0));
        Check.dueThrow("an undone trip", IndexOutOfBoundsException.class, () -> x.dispute(0));
    }

    /** "if there is no such invoice" */
    private static void noSuchInvoice() {
        Supplier<FreeFlowToll> made = BoundsOfBillingTest::invoiced;
        Bounds.index("invoiceTag", 2, made, (x, i) -> x.invoiceTag(i));
        Bounds.index("invoicePlate", 2, made, (x, i) -> x.invoicePlate(i));
        Bounds.index("invoiceTotal", 2, made, (x, i) -> x.invoiceTotal(i));
        Bounds.index("balance", 2, made, (x, i) -> x.balance(i));
        Bounds.index("pay", 2, made, (x, i) -> x.pay(i, 1));
        Bounds.index("balance of 40", 40, () -> vehicles(40, 40), (x, i) -> x.balance(i));
        FreeFlowToll x = invoiced();
        Check.due("invoiceCount", x.invoiceCount(), 2);
        x.undo();
        Check.due("none is left", x.invoiceCount(), 0);
        Check.dueThrow("an undone invoice", IndexOutOfBoundsException.class, () -> x.balance(0));
        Check.dueThrow("an undone invoice", IndexOutOfBoundsException.class, () -> x.pay(0, 1));
    }

    /** Promise 43: "cents: 1 to 100000"; "if there is no such invoice (checked first)" */
    private static void payments() {
        Supplier<FreeFlowToll> made = BoundsOfBillingTest::invoiced;
        Bounds.argument("pay cents", 1, 100000, made, (x, cents) -> x.pay(1, cents));
        for (int i : new int[] {-1, 2}) {
            Bounds.badIndex("no invoice and no cents", made, x -> x.pay(i, 0));
            Bounds.badIndex("too many cents for no invoice", made, x -> x.pay(i, 100001));
        }
        Check.due("1 cent", made.get().pay(1, 1), 99);
        Check.due("100000 cents", made.get().pay(1, 100000), -99900);
    }

    /** Promise 44: "the number of trips that are disputed then"; "if the state of the trip is not 0" */
    private static void disputes() {
        FreeFlowToll x = invoiced();
        int[] order = {3, 0, 2, 1};
        for (int n = 0; n < 4; n++) {
            Check.due("dispute(" + order[n] + ")", x.dispute(order[n]), n + 1);
        }
        x.resolve(0, true);
        x.resolve(1, false);
        x.undo();
        x.undo();
        Check.due("undone", x.undo(), 7);
        Check.due("dispute(1) again", x.dispute(1), 4);
        FreeFlowToll y = invoiced();
        y.dispute(0);
        y.resolve(0, true);
        y.dispute(1);
        y.resolve(1, false);
        Check.due("resolved ones do not count", y.dispute(2), 1);
        for (int state = 1; state <= 3; state++) {
            int now = state;
            Bounds.badState("dispute in state " + state, () -> inState(now), z -> z.dispute(1));
        }
        Bounds.badIndex("the trip comes first", () -> inState(1), z -> z.dispute(4));
    }

    /** Promise 45: "true if it is credited, false if it is confirmed"; "if the trip is not disputed" */
    private static void resolutions() {
        Check.due("credited", inState(1).resolve(1, true), 207);
        Check.due("confirmed", inState(1).resolve(1, false), 307);
        FreeFlowToll x = inState(1);
        x.pay(0, 300);
        Check.due("the balance then", x.resolve(1, true), -93);
        FreeFlowToll y = invoiced();
        y.dispute(3);
        Check.due("of its own invoice", y.resolve(3, false), 100);
        for (int state = 0; state <= 3; state++) {
            int now = state;
            if (state != 1) {
                Bounds.badState("credit in state " + state, () -> inState(now), z -> z.resolve(1, true));
                Bounds.badState("confirm in state " + state, () -> inState(now), z -> z.resolve(1, false));
            }
        }
        Bounds.badState("another trip is disputed", () -> inState(1), z -> z.resolve(0, true));
    }
}
