/**
 * The boundary cases of the section ROUTES and of promises 7 to 9. Above each test stand the words of
 * the document that it is for.
 */
public final class BoundsOfRoutesTest {
    public static void main(String[] args) {
        gantryRange();
        elapsedRange();
        oneToThreeLinks();
        minutesNotLess();
        sumsOverLinks();
        fewestLinks();
        lowestPrice();
        lexicographicallyFirst();
        equalEnds();
        severalTimes();
        directionOfLinks();
        noRoute();
        indexOfGantry();
        askedTwice();
        Check.end("BoundsOfRoutesTest");
    }

    /** Asks for the route, and for the gantries before its first and after its last one. */
    private static void route(FreeFlowToll x, int elapsed, int price, int... gantries) {
        int from = gantries[0];
        int links = gantries.length - 1;
        int to = gantries[links];
        String what = "(" + from + ", " + to + ", " + elapsed + ")";
        Check.due("routeLinks" + what, x.routeLinks(from, to, elapsed), links);
        Check.due("routePrice" + what, x.routePrice(from, to, elapsed), price);
        for (int i = -1; i <= links + 1; i++) {
            int due = i < 0 || i > links ? -1 : gantries[i];
            Check.due("routeGantry" + what + " at " + i, x.routeGantry(from, to, elapsed, i), due);
        }
    }

    private static void none(FreeFlowToll x, int from, int to, int elapsed) {
        String what = "(" + from + ", " + to + ", " + elapsed + ")";
        Check.due("routeLinks" + what, x.routeLinks(from, to, elapsed), -1);
        Check.due("routePrice" + what, x.routePrice(from, to, elapsed), -1);
        for (int i = -1; i <= 4; i++) {
            Check.due("routeGantry" + what + " at " + i, x.routeGantry(from, to, elapsed, i), -1);
        }
    }

    /** "from: a gantry", "to: a gantry"; "if there is no such gantry" */
    private static void gantryRange() {
        Bounds.argument("routeLinks from", 0, 2, Bounds::busy, (x, from) -> x.routeLinks(from, 1, 0));
        Bounds.argument("routeLinks to", 0, 2, Bounds::busy, (x, to) -> x.routeLinks(1, to, 0));
        Bounds.argument("routePrice from", 0, 2, Bounds::busy, (x, from) -> x.routePrice(from, 1, 0));
        Bounds.argument("routePrice to", 0, 2, Bounds::busy, (x, to) -> x.routePrice(1, to, 0));
        Bounds.argument("routeGantry from", 0, 2, Bounds::busy, (x, from) -> x.routeGantry(from, 1, 0, 0));
        Bounds.argument("routeGantry to", 0, 2, Bounds::busy, (x, to) -> x.routeGantry(1, to, 0, 0));
        for (int gantries : new int[] {2, 10}) {
            int last = gantries - 1;
            FreeFlowToll x = Check.with("gantries " + gantries + ";link 0 " + last + " 9 5;link " + last + " 0 9 6;");
            route(x, 0, 5, 0, last);
            route(x, 0, 6, last, 0);
            Check.dueThrow("no such gantry", IllegalArgumentException.class, () -> x.routeLinks(0, gantries, 0));
            Check.dueThrow("no such gantry", IllegalArgumentException.class, () -> x.routePrice(gantries, 0, 0));
            Check.dueThrow("no such gantry", IllegalArgumentException.class, () -> x.routeGantry(gantries, 0, 0, 0));
        }
    }

    /** "elapsed: 0 to 99999"; "or elapsed is out of range" */
    private static void elapsedRange() {
        Bounds.argument("routeLinks elapsed", 0, 99999, Bounds::busy, (x, elapsed) -> x.routeLinks(0, 1, elapsed));
        Bounds.argument("routePrice elapsed", 0, 99999, Bounds::busy, (x, elapsed) -> x.routePrice(0, 1, elapsed));
        Bounds.argument("routeGantry elapsed", 0, 99999, Bounds::busy,
                (x, elapsed) -> x.routeGantry(0, 1, elapsed, 0));
        Bounds.argument("routeLinks without a route", 0, 99999, Bounds::busy,
                (x, elapsed) -> x.routeLinks(2, 0, elapsed));
        Bounds.argument("routePrice without a route", 0, 99999, Bounds::busy,
                (x, elapsed) -> x.routePrice(2, 0, elapsed));
        Bounds.argument("routeGantry without an index", 0, 99999, Bounds::busy,
                (x, elapsed) -> x.routeGantry(2, 0, elapsed, 9));
    }

    /**
     * "A route from gantry a to gantry b is a sequence of 1 to 3 links"; "Returns 1 to 3; NONE if there is no
     * route."
     */
    private static void oneToThreeLinks() {
        FreeFlowToll x = Check.with("gantries 5;link 0 1 9 1;link 1 2 9 2;link 2 3 9 4;link 3 4 9 8;");
        none(x, 0, 0, 0);
        route(x, 0, 1, 0, 1);
        route(x, 0, 3, 0, 1, 2);
        route(x, 0, 7, 0, 1, 2, 3);
        none(x, 0, 4, 0);
        route(x, 0, 14, 1, 2, 3, 4);
    }

    /** "whose minutes are not less than the elapsed time" */
    private static void minutesNotLess() {
        FreeFlowToll x = Check.with("gantries 4;link 0 1 10 1;link 1 2 20 2;link 2 3 30 4;");
        route(x, 9, 1, 0, 1);
        route(x, 10, 1, 0, 1);
        none(x, 0, 1, 11);
        route(x, 29, 3, 0, 1, 2);
        route(x, 30, 3, 0, 1, 2);
        none(x, 0, 2, 31);
        route(x, 59, 7, 0, 1, 2, 3);
        route(x, 60, 7, 0, 1, 2, 3);
        none(x, 0, 3, 61);
        none(x, 0, 3, 99999);
    }

    /** "Its minutes and its price are the sums over its links.": also the greatest ones. */
    private static void sumsOverLinks() {
        FreeFlowToll x = Check.with("gantries 4;link 0 1 120 5000;link 1 2 120 5000;link 2 3 120 5000;");
        route(x, 120, 5000, 0, 1);
        none(x, 0, 1, 121);
        route(x, 240, 10000, 0, 1, 2);
        none(x, 0, 2, 241);
        route(x, 360, 15000, 0, 1, 2, 3);
        none(x, 0, 3, 361);
        FreeFlowToll y = Check.with("gantries 4;link 0 1 1 1;link 1 2 1 1;link 2 3 1 1;");
        route(y, 1, 1, 0, 1);
        none(y, 0, 1, 2);
        route(y, 0, 2, 0, 1, 2);
        route(y, 2, 2, 0, 1, 2);
        none(y, 0, 2, 3);
        route(y, 0, 3, 0, 1, 2, 3);
        route(y, 3, 3, 0, 1, 2, 3);
        none(y, 0, 3, 4);
    }

    /** "the one with the fewest links": also if it is dearer, and only if its minutes are enough. */
    private static void fewestLinks() {
        FreeFlowToll x = Check.with("gantries 4;link 0 3 10 5000;link 0 1 6 1;link 1 3 5 1;link 1 2 6 1;link 2 3 1 1;");
        route(x, 0, 5000, 0, 3);
        route(x, 10, 5000, 0, 3);
        route(x, 11, 2, 0, 1, 3);
        route(x, 12, 3, 0, 1, 2, 3);
        route(x, 13, 3, 0, 1, 2, 3);
        none(x, 0, 3, 14);
        FreeFlowToll y = Check.with("gantries 4;link 0 1 6 5000;link 1 3 5 5000;link 0 2 20 1;link 2 1 20 1;");
        route(y, 11, 10000, 0, 1, 3);
        route(y, 12, 5002, 0, 2, 1, 3);
    }

    /** "of several the one with the lowest price": by one cent, and only among those whose minutes are enough. */
    private static void lowestPrice() {
        FreeFlowToll x = Check.with("gantries 4;link 0 1 10 50;link 1 3 10 50;link 0 2 9 50;link 2 3 9 49;");
        route(x, 0, 99, 0, 2, 3);
        route(x, 18, 99, 0, 2, 3);
        route(x, 19, 100, 0, 1, 3);
        route(x, 20, 100, 0, 1, 3);
        none(x, 0, 3, 21);
        FreeFlowToll y = Check.with("gantries 5;link 0 1 9 5;link 1 2 9 5;link 2 4 9 5;link 0 3 9 5;link 3 2 9 4;"
                + "link 1 3 5 3;link 3 4 1 4999;");
        route(y, 11, 14, 0, 3, 2, 4);
        route(y, 27, 14, 0, 3, 2, 4);
        none(y, 0, 4, 28);
    }

    /** "of several the one whose sequence of gantries is lexicographically first" */
    private static void lexicographicallyFirst() {
        FreeFlowToll x = Check.with("gantries 4;link 0 2 9 5;link 2 3 9 5;link 0 1 8 4;link 1 3 9 6;");
        route(x, 17, 10, 0, 1, 3);
        route(x, 18, 10, 0, 2, 3);
        FreeFlowToll second = Check.with("gantries 6;link 0 2 9 5;link 2 4 9 5;link 4 5 9 5;link 0 1 8 5;"
                + "link 1 4 9 5;");
        route(second, 26, 15, 0, 1, 4, 5);
        route(second, 27, 15, 0, 2, 4, 5);
        FreeFlowToll third = Check.with("gantries 6;link 0 2 9 5;link 2 4 9 5;link 4 5 9 5;link 2 3 8 5;link 3 5 9 5;");
        route(third, 26, 15, 0, 2, 3, 5);
        route(third, 27, 15, 0, 2, 4, 5);
        FreeFlowToll both = Check.with("gantries 6;link 0 2 9 5;link 2 3 9 5;link 3 5 9 5;link 0 1 9 5;link 1 4 9 5;"
                + "link 4 5 9 5;");
        route(both, 0, 15, 0, 1, 4, 5);
    }

    /** "(a and b may be equal": there is no route of no links, but one that comes back. */
    private static void equalEnds() {
        FreeFlowToll x = Check.with("gantries 3;link 0 1 10 1;link 1 0 10 2;link 1 2 10 4;link 2 0 10 8;");
        route(x, 0, 3, 0, 1, 0);
        route(x, 20, 3, 0, 1, 0);
        route(x, 21, 13, 0, 1, 2, 0);
        route(x, 30, 13, 0, 1, 2, 0);
        none(x, 0, 0, 31);
        route(x, 0, 3, 1, 0, 1);
        route(x, 0, 13, 2, 0, 1, 2);
        none(Check.with("gantries 2;link 0 1 9 5;"), 0, 0, 0);
        none(Check.with("gantries 2;link 0 1 9 5;"), 1, 1, 0);
    }

    /** "and a gantry may occur several times.)" */
    private static void severalTimes() {
        FreeFlowToll x = Check.with("gantries 3;link 0 1 10 1;link 1 0 10 2;link 1 2 5 4;");
        route(x, 10, 1, 0, 1);
        route(x, 11, 4, 0, 1, 0, 1);
        route(x, 30, 4, 0, 1, 0, 1);
        none(x, 0, 1, 31);
        route(x, 5, 4, 1, 2);
        route(x, 6, 7, 1, 0, 1, 2);
        route(x, 25, 7, 1, 0, 1, 2);
        none(x, 1, 2, 26);
    }

    /** "A link leads from its gantry from to its gantry to." */
    private static void directionOfLinks() {
        FreeFlowToll x = Check.with("gantries 3;link 0 1 10 1;link 2 1 10 2;");
        none(x, 1, 0, 0);
        none(x, 0, 2, 0);
        none(x, 2, 0, 0);
        none(x, 1, 2, 0);
        route(x, 0, 2, 2, 1);
    }

    /** "NONE if there is no route": also without any link. */
    private static void noRoute() {
        FreeFlowToll x = Check.with("gantries 2;");
        for (int from = 0; from < 2; from++) {
            for (int to = 0; to < 2; to++) {
                none(x, from, to, 0);
                none(x, from, to, 99999);
            }
        }
    }

    /** "index in the sequence of gantries, 0 for from"; "NONE if there is no route or no such index" */
    private static void indexOfGantry() {
        FreeFlowToll x = Check.with("gantries 4;link 3 2 9 1;link 2 1 9 1;link 1 0 9 1;");
        for (int links = 1; links <= 3; links++) {
            int to = 3 - links;
            for (int index = 0; index <= links; index++) {
                Check.due("index " + index, x.routeGantry(3, to, 0, index), 3 - index);
            }
            for (int index : new int[] {-1, links + 1, 4, Integer.MIN_VALUE, Integer.MAX_VALUE}) {
                Check.due("no index " + index, x.routeGantry(3, to, 0, index), -1);
            }
        }
        for (int index : new int[] {-1, 0, 1, Integer.MIN_VALUE, Integer.MAX_VALUE}) {
            Check.due("no route, index " + index, x.routeGantry(0, 3, 0, index), -1);
        }
    }

    /** An answer does not depend on the routes that were asked for or refused before it. */
    private static void askedTwice() {
        FreeFlowToll x = Check.with("gantries 4;link 0 1 9 1;link 1 2 9 2;link 2 3 9 4;");
        route(x, 0, 7, 0, 1, 2, 3);
        none(x, 3, 0, 0);
        route(x, 0, 1, 0, 1);
        Check.dueThrow("refused", IllegalArgumentException.class, () -> x.routeLinks(0, 4, 0));
        Check.due("after a refused call", x.routeGantry(1, 3, 0, 1), 2);
        Check.due("after a longer route", x.routeGantry(0, 1, 0, 2), -1);
        x.previewTrips(99999);
        route(x, 27, 7, 0, 1, 2, 3);
    }
}
