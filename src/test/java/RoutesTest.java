/** Promises 7 to 9: routeLinks, routePrice, routeGantry. */
public final class RoutesTest {
    public static void main(String[] args) {
        fewestLinks();
        lowestPrice();
        lexicographicallyFirst();
        longWay();
        circles();
        lastGantry();
        wrongArguments();
        Check.end("RoutesTest");
    }

    /** Asks for the number of links, the price and all gantries of a route, and the indexes beside them. */
    private static void route(FreeFlowToll x, int elapsed, int price, int... gantries) {
        int from = gantries[0];
        int to = gantries[gantries.length - 1];
        String what = "(" + from + ", " + to + ", " + elapsed;
        Check.due("7 routeLinks" + what + ")", x.routeLinks(from, to, elapsed), gantries.length - 1);
        Check.due("8 routePrice" + what + ")", x.routePrice(from, to, elapsed), price);
        for (int i = 0; i < gantries.length; i++) {
            Check.due("9 routeGantry" + what + ", " + i + ")", x.routeGantry(from, to, elapsed, i), gantries[i]);
        }
        for (int i : new int[] {-1, gantries.length, 4, 100, Integer.MIN_VALUE, Integer.MAX_VALUE}) {
            Check.due("9 routeGantry" + what + ", " + i + ")", x.routeGantry(from, to, elapsed, i), -1);
        }
    }

    private static void noRoute(FreeFlowToll x, int from, int to, int elapsed) {
        String what = "(" + from + ", " + to + ", " + elapsed;
        Check.due("7 routeLinks" + what + ")", x.routeLinks(from, to, elapsed), -1);
        Check.due("8 routePrice" + what + ")", x.routePrice(from, to, elapsed), -1);
        for (int i = -2; i <= 4; i++) {
            Check.due("9 routeGantry" + what + ", " + i + ")", x.routeGantry(from, to, elapsed, i), -1);
        }
    }

    private static void fewestLinks() {
        FreeFlowToll x = Check.with("gantries 4;link 0 1 10 900;link 0 2 20 1;link 2 1 20 1;"
                + "link 2 3 30 1;link 3 1 30 1;");
        route(x, 0, 900, 0, 1);
        route(x, 10, 900, 0, 1);
        route(x, 11, 2, 0, 2, 1);
        route(x, 40, 2, 0, 2, 1);
        route(x, 41, 3, 0, 2, 3, 1);
        route(x, 80, 3, 0, 2, 3, 1);
        noRoute(x, 0, 1, 81);
        noRoute(x, 0, 1, 99999);
        noRoute(x, 1, 0, 0);
        noRoute(x, 1, 1, 0);
    }

    private static void lowestPrice() {
        FreeFlowToll x = Check.with("gantries 5;link 0 1 10 50;link 1 4 10 50;link 0 2 15 49;link 2 4 15 50;"
                + "link 0 3 20 10;link 3 4 8 90;");
        route(x, 20, 99, 0, 2, 4);
        route(x, 28, 99, 0, 2, 4);
        route(x, 30, 99, 0, 2, 4);
        FreeFlowToll y = Check.with("gantries 5;link 0 1 10 10;link 1 4 5 10;link 0 2 15 49;link 2 4 15 50;"
                + "link 0 3 20 10;link 3 4 8 88;");
        route(y, 15, 20, 0, 1, 4);
        route(y, 16, 98, 0, 3, 4);
        route(y, 28, 98, 0, 3, 4);
        route(y, 29, 99, 0, 2, 4);
        noRoute(y, 0, 4, 31);
        FreeFlowToll z = Check.with("gantries 6;link 0 1 9 5;link 1 2 9 5;link 2 5 9 5;link 0 3 9 5;link 3 4 9 5;"
                + "link 4 5 9 4;link 3 2 9 4;");
        route(z, 1, 14, 0, 3, 2, 5);
        FreeFlowToll w = Check.with("gantries 6;link 0 1 9 5;link 1 2 9 5;link 2 5 9 5;link 0 3 9 5;link 3 4 9 5;"
                + "link 4 5 9 4;");
        route(w, 27, 14, 0, 3, 4, 5);
        noRoute(w, 0, 5, 28);
    }

    private static void lexicographicallyFirst() {
        FreeFlowToll x = Check.with("gantries 5;link 0 3 9 5;link 3 4 9 5;link 0 2 9 6;link 2 4 9 4;"
                + "link 0 1 5 5;link 1 4 5 5;");
        route(x, 5, 10, 0, 1, 4);
        route(x, 11, 10, 0, 2, 4);
        FreeFlowToll y = Check.with("gantries 6;link 0 4 9 5;link 4 1 9 5;link 1 5 9 5;link 4 3 9 5;link 3 5 9 5;"
                + "link 0 2 9 5;link 2 3 9 5;link 2 1 2 5;");
        route(y, 0, 15, 0, 2, 1, 5);
        route(y, 21, 15, 0, 2, 3, 5);
    }

    private static void longWay() {
        FreeFlowToll x = Check.with("gantries 5;link 0 1 120 5000;link 1 2 120 5000;link 2 3 120 5000;"
                + "link 3 4 120 5000;");
        route(x, 120, 5000, 0, 1);
        route(x, 240, 10000, 0, 1, 2);
        route(x, 360, 15000, 0, 1, 2, 3);
        noRoute(x, 0, 3, 361);
        noRoute(x, 0, 4, 0);
    }

    private static void circles() {
        FreeFlowToll x = Check.with("gantries 3;link 0 1 10 7;link 1 0 10 8;link 1 2 20 1;link 2 0 20 1;");
        route(x, 0, 15, 0, 1, 0);
        route(x, 20, 15, 0, 1, 0);
        route(x, 21, 9, 0, 1, 2, 0);
        route(x, 11, 22, 0, 1, 0, 1);
        route(x, 40, 2, 1, 2, 0);
        route(x, 30, 2, 1, 2, 0);
        route(x, 0, 15, 1, 0, 1);
        route(x, 21, 9, 1, 2, 0, 1);
        route(x, 0, 9, 2, 0, 1, 2);
    }

    private static void lastGantry() {
        FreeFlowToll x = Check.with("gantries 10;link 9 8 5 3;link 8 9 5 4;link 0 9 5 5;");
        route(x, 5, 3, 9, 8);
        route(x, 6, 10, 9, 8, 9, 8);
        route(x, 0, 8, 0, 9, 8);
        route(x, 11, 12, 0, 9, 8, 9);
        noRoute(x, 0, 0, 0);
    }

    private static void wrongArguments() {
        FreeFlowToll x = Check.with("gantries 3;link 0 1 9 5;link 1 2 9 5;");
        int[][] wrong = {{-1, 0, 0}, {3, 0, 0}, {0, -1, 0}, {0, 3, 0}, {0, 1, -1}, {0, 1, 100000},
            {Integer.MIN_VALUE, 0, 0}, {Integer.MAX_VALUE, 0, 0}, {0, Integer.MIN_VALUE, 0},
            {0, Integer.MAX_VALUE, 0}, {0, 1, Integer.MIN_VALUE}, {0, 1, Integer.MAX_VALUE}, {10, 10, 100000}};
        for (int[] w : wrong) {
            String what = "(" + w[0] + ", " + w[1] + ", " + w[2] + ")";
            Check.badArgument("7 routeLinks" + what, () -> x.routeLinks(w[0], w[1], w[2]));
            Check.badArgument("8 routePrice" + what, () -> x.routePrice(w[0], w[1], w[2]));
            Check.badArgument("9 routeGantry" + what, () -> x.routeGantry(w[0], w[1], w[2], 0));
            Check.badArgument("9 routeGantry" + what, () -> x.routeGantry(w[0], w[1], w[2], -1));
        }
        FreeFlowToll empty = new FreeFlowToll();
        Check.badArgument("7 without gantries", () -> empty.routeLinks(0, 0, 0));
        Check.badArgument("8 without gantries", () -> empty.routePrice(0, 0, 0));
        Check.badArgument("9 without gantries", () -> empty.routeGantry(0, 0, 0, 0));
    }
}
