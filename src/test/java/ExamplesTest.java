/** The four examples of the document, call by call. */
public final class ExamplesTest {
    public static void main(String[] args) {
        example1();
        example2();
        example3();
        example4();
        Check.end("ExamplesTest");
    }

    private static void example1() {
        FreeFlowToll x = new FreeFlowToll();
        Check.due("1 append", x.append(1734438516, 1919509875, 540162924, 1768844064, 807416096), 20);
        Check.due("1 append", x.append(958411056, 809202785, 1730164021, 540162918, 1701126199), 40);
        Check.due("1 append", x.append(989855744, 0, 0, 0, 0), 60);
        Check.due("1 parse(41)", x.parse(41), 1);
        Check.due("1 readTag(0, 0, 10, 0)", x.readTag(0, 0, 10, 0), 0);
        Check.due("1 readTag(1, 2, 19, 0)", x.readTag(1, 2, 19, 0), 1);
        Check.due("1 readPlate(1, 0, 20, 77, 90)", x.readPlate(1, 0, 20, 77, 90), 2);
        Check.due("1 previewTrips(20)", x.previewTrips(20), 2);
        Check.due("1 bill(20)", x.bill(20), 2);
        Check.due("1 tripAmount(0)", x.tripAmount(0), 100);
        Check.due("1 invoiceTotal(1)", x.invoiceTotal(1), 107);
        Check.due("1 bill(20) again", x.bill(20), 0);
        Check.due("1 dispute(1)", x.dispute(1), 1);
        Check.due("1 resolve(1, true)", x.resolve(1, true), 7);
    }

    private static void example2() {
        FreeFlowToll x = new FreeFlowToll();
        Check.due("2 append", x.append(1734438516, 1919509875, 540228460, 1768844064, 807416096), 20);
        Check.due("2 append", x.append(958412091, 1818848875, 540090418, 540614709, 989855744), 40);
        Check.due("2 parse(37)", x.parse(37), 2);
        Check.due("2 routeLinks(0, 2, 18)", x.routeLinks(0, 2, 18), 2);
        Check.due("2 routeLinks(0, 2, 19)", x.routeLinks(0, 2, 19), -1);
        Check.due("2 readPlate(0, 0, 5, 8, 60)", x.readPlate(0, 0, 5, 8, 60), 0);
        Check.due("2 readPlate(0, 0, 6, 9, 60)", x.readPlate(0, 0, 6, 9, 60), 0);
        Check.due("2 passagePlate(0)", x.passagePlate(0), 8);
        Check.due("2 votes(0, 9)", x.votes(0, 9), 60);
        Check.due("2 readPlate(0, 0, 7, 9, 60)", x.readPlate(0, 0, 7, 9, 60), 1);
        Check.due("2 passageCount()", x.passageCount(), 2);
    }

    private static void example3() {
        FreeFlowToll x = new FreeFlowToll();
        Check.due("3 append", x.append(1734438516, 1919509875, 540162918, 1701126193, 996566373), 20);
        Check.due("3 append", x.append(540162816, 0, 0, 0, 0), 40);
        Check.due("3 parse(23)", x.parse(23), -141);
        Check.due("3 gantryCount()", x.gantryCount(), 0);
        Check.due("3 tagCount()", x.tagCount(), 0);
    }

    private static void example4() {
        FreeFlowToll x = new FreeFlowToll();
        Check.due("4 append", x.append(1734438516, 1919509875, 540162932, 1634148405, 540293987), 20);
        Check.due("4 append", x.append(1818325875, 540221490, 808467200, 0, 0), 40);
        Check.due("4 parse(31)", x.parse(31), 0);
        Check.due("4 readTag(0, 0, 1, 0)", x.readTag(0, 0, 1, 0), 0);
        Check.due("4 readAxles(0, 0, 2, 2)", x.readAxles(0, 0, 2, 2), 0);
        Check.due("4 exceptions(0)", x.exceptions(0), 4);
        Check.due("4 assignAxles(0, 5)", x.assignAxles(0, 5), 0);
        Check.dueThrow("4 passageTime(1)", IndexOutOfBoundsException.class, () -> x.passageTime(1));
        Check.due("4 tripOf(0)", x.tripOf(0), -1);
    }
}
