import java.util.ArrayDeque;
import java.util.ArrayList;
import java.util.Deque;
import java.util.List;

/**
 * The boundary cases of the section CHANGES, of promises 46 to 48 and of the number of calls. Above each
 * test stand the words of the document that it is for.
 */
public final class BoundsOfChangesTest {
    public static void main(String[] args) {
        latestTen();
        latestFirst();
        everyChange();
        changesThatShowNothing();
        noChanges();
        noChangeByText();
        nothingToUndo();
        aroundAndAround();
        notUndoneYet();
        twoSlots();
        emptySlots();
        savingChangesNothing();
        inPlaceOfBefore();
        clearsHistory();
        staysInSlot();
        holdsEverything();
        holdsEveryPassage();
        holdsEveryInvoice();
        butTheBuffer();
        butTheSlots();
        snapshotOfNothing();
        timeOfSnapshot();
        undoAfterRestore();
        parseEmptiesSlots();
        throwingChangesNothing();
        lastOf512Calls();
        Check.end("BoundsOfChangesTest");
    }

    private static final String NETWORK = Bounds.NETWORK;

    /** Trip 0 is disputed, trip 1 is not, passage 2 is open; five changes were made, slot 1 is full. */
    private static FreeFlowToll calm() {
        FreeFlowToll x = Check.with(NETWORK);
        x.readTag(0, 0, 10, 0);
        x.readPlate(0, 1, 10, 44, 60);
        x.bill(10);
        x.saveSnapshot(1);
        x.dispute(0);
        x.readPlate(1, 2, 20, 5, 60);
        return x;
    }

    /** A change that can be made again and again: the votes of passage 0 for plate 5 grow by the confidence. */
    private static void vote(FreeFlowToll x, int confidence) {
        x.readPlate(0, 0, 10, 5, confidence);
    }

    // ---- undo

    /** "The latest 10 changes can be undone"; "the number of changes that can still be undone" */
    private static void latestTen() {
        for (int changes = 0; changes <= 31; changes++) {
            FreeFlowToll x = Check.with(NETWORK);
            for (int n = 0; n < changes; n++) {
                x.readAxles(n % 3, 0, 10 * n, 2);
            }
            int kept = Math.min(changes, 10);
            for (int n = 1; n <= kept; n++) {
                Check.due("undo after " + changes, x.undo(), kept - n);
                Check.due("passageCount", x.passageCount(), changes - n);
            }
            Check.due("one undo more", x.undo(), -1);
            Check.due("passageCount", x.passageCount(), changes - kept);
            Check.due("another undo", x.undo(), -1);
        }
    }

    /** "the latest first" */
    private static void latestFirst() {
        FreeFlowToll x = calm();
        List<String> states = new ArrayList<>();
        Runnable[] changes = {() -> x.resolve(0, true), () -> x.pay(1, 5), () -> x.assignPlate(2, 11),
            () -> x.assignAxles(2, 9), () -> x.dismiss(2)};
        for (Runnable change : changes) {
            states.add(brief(x));
            change.run();
        }
        for (int n = changes.length - 1; n >= 0; n--) {
            Check.due("undo", x.undo(), 5 + n);
            Check.same("the state before change " + n, brief(x), states.get(n));
        }
    }

    private static String brief(FreeFlowToll x) {
        return x.tripState(0) + " " + x.balance(0) + " " + x.balance(1) + " " + x.passagePlate(2) + " "
                + x.passageAxles(2) + " " + x.passageState(2);
    }

    private static void undone(String what, Bounds.Asked change) {
        Bounds.changesNothing(what + " and undo", BoundsOfChangesTest::calm, x -> {
            String before = Bounds.answers(x);
            change.of(x);
            Check.due(what + " shows", Bounds.answers(x).equals(before), false);
            Check.due(what + " is one change", x.undo(), 5);
            return 0;
        });
    }

    /** "The methods from readTag to resolve change the data if they succeed.": each is undone with all it did. */
    private static void everyChange() {
        undone("readTag that begins", x -> x.readTag(0, 0, 30, 0));
        undone("readTag that joins", x -> x.readTag(1, 2, 22, 1));
        undone("readPlate that begins", x -> x.readPlate(0, 0, 30, 9, 1));
        undone("readPlate that joins", x -> x.readPlate(1, 2, 22, 9, 1));
        undone("readAxles that begins", x -> x.readAxles(0, 0, 99999, 2));
        undone("readAxles that joins", x -> x.readAxles(1, 2, 22, 2));
        undone("assignPlate", x -> x.assignPlate(2, 9));
        undone("assignAxles", x -> x.assignAxles(2, 9));
        undone("dismiss", x -> x.dismiss(2));
        undone("bill", x -> x.bill(20));
        undone("pay", x -> x.pay(1, 1));
        undone("dispute", x -> x.dispute(1));
        undone("resolve, credited", x -> x.resolve(0, true));
        undone("resolve, confirmed", x -> x.resolve(0, false));
    }

    /** "change the data if they succeed": also where no answer shows it. */
    private static void changesThatShowNothing() {
        Bounds.Asked[] changes = {x -> x.assignPlate(0, 9), x -> x.assignAxles(0, 4), x -> x.readTag(0, 0, 10, 0),
            x -> x.readPlate(0, 0, 10, 5, 5)};
        for (Bounds.Asked change : changes) {
            FreeFlowToll x = Check.with(NETWORK);
            x.readTag(0, 0, 10, 0);
            x.assignPlate(0, 9);
            x.assignAxles(0, 4);
            for (int plate = 1; plate <= 4; plate++) {
                x.readPlate(0, 0, 10, plate, 5);
            }
            String before = Bounds.answers(x);
            change.of(x);
            Check.same("nothing to be seen", Bounds.answers(x), before);
            Check.due("eight changes", Check.undoAll(x), 8);
        }
    }

    private static void noChange(String what, Bounds.Asked call) {
        Bounds.changesNothing(what, Bounds::busy, call);
    }

    /** Questions are no changes: they leave all ten that can be undone. */
    private static void noChanges() {
        noChange("gantryCount", x -> x.gantryCount());
        noChange("tagCount", x -> x.tagCount());
        noChange("classOf", x -> x.classOf(5));
        noChange("routeLinks", x -> x.routeLinks(0, 2, 5));
        noChange("routePrice", x -> x.routePrice(0, 2, 5));
        noChange("routeGantry", x -> x.routeGantry(0, 2, 5, 1));
        noChange("passageCount", x -> x.passageCount());
        noChange("passageGantry", x -> x.passageGantry(0));
        noChange("passageTime", x -> x.passageTime(0));
        noChange("passageTag", x -> x.passageTag(0));
        noChange("passagePlate", x -> x.passagePlate(0));
        noChange("passageAxles", x -> x.passageAxles(0));
        noChange("votes", x -> x.votes(0, 5));
        noChange("exceptions", x -> x.exceptions(0));
        noChange("passageState", x -> x.passageState(0));
        noChange("tripOf", x -> x.tripOf(0));
        noChange("openPassages", x -> x.openPassages());
        noChange("passagesToReview", x -> x.passagesToReview());
        noChange("previewTrips", x -> x.previewTrips(99999));
        noChange("previewTotal", x -> x.previewTotal(99999));
        noChange("tripCount", x -> x.tripCount());
        noChange("tripAmount", x -> x.tripAmount(0));
        noChange("tripClass", x -> x.tripClass(0));
        noChange("tripPassages", x -> x.tripPassages(0));
        noChange("tripState", x -> x.tripState(0));
        noChange("invoiceOf", x -> x.invoiceOf(0));
        noChange("invoiceCount", x -> x.invoiceCount());
        noChange("invoiceTag", x -> x.invoiceTag(0));
        noChange("invoicePlate", x -> x.invoicePlate(0));
        noChange("invoiceTotal", x -> x.invoiceTotal(0));
        noChange("balance", x -> x.balance(0));
        noChange("outstanding", x -> x.outstanding());
        noChange("bill without passages", x -> x.bill(0));
    }

    /** Nor is a text that is appended, refused or wrong. */
    private static void noChangeByText() {
        noChange("a wrong text", x -> Check.parse(x, "gantries 1;"));
        noChange("a refused length", x -> {
            Check.dueThrow("parse(1)", IllegalArgumentException.class, () -> x.parse(1));
            return 0;
        });
        FreeFlowToll x = Bounds.busy();
        String before = Bounds.answers(x);
        x.append(0, 0, 0, 0, 0);
        Check.same("append leaves the data", Bounds.answers(x), before);
        Check.due("append is no change", x.undo(), 9);
        Check.due("undo leaves the buffer", x.append(0, 0, 0, 0, 0), 40);
    }

    /** "NONE if there was none to undo" */
    private static void nothingToUndo() {
        Bounds.changesNothing("undo of a new object", FreeFlowToll::new, x -> {
            Check.due("undo", x.undo(), -1);
            return 0;
        });
        Bounds.changesNothing("undo of a new network", () -> Check.with(NETWORK), x -> {
            Check.due("undo", x.undo(), -1);
            return 0;
        });
        FreeFlowToll x = Check.with(NETWORK);
        vote(x, 1);
        Check.due("the only change", x.undo(), 0);
        Check.due("none is left", x.undo(), -1);
        vote(x, 1);
        Check.due("a new change", x.undo(), 0);
    }

    /** "Undoes the latest change that has not been undone.": also after many changes and undos. */
    private static void aroundAndAround() {
        FreeFlowToll x = Check.with(NETWORK);
        vote(x, 1);
        Deque<Integer> before = new ArrayDeque<>();
        before.addLast(0);
        int sum = 1;
        int[] steps = {8, -3, 7, -10, -2, 3, -3, 25, -10, -1, 10, -9, 9, -4, 11, -11, 1, -1, 13, -5, 5, -10, 12, -10};
        for (int step : steps) {
            for (int n = 0; n < Math.abs(step); n++) {
                if (step > 0) {
                    before.addLast(sum);
                    sum += 1 + n % 5;
                    vote(x, 1 + n % 5);
                    if (before.size() > 10) {
                        before.removeFirst();
                    }
                } else {
                    int left = before.isEmpty() ? -1 : before.size() - 1;
                    sum = before.isEmpty() ? sum : before.removeLast();
                    Check.due("undo", x.undo(), left);
                }
                Check.due("votes", sum == 0 ? x.passageCount() : x.votes(0, 5), sum);
            }
        }
    }

    /** "the latest change that has not been undone": an undone change does not come back. */
    private static void notUndoneYet() {
        FreeFlowToll x = Check.with(NETWORK);
        vote(x, 1);
        vote(x, 10);
        vote(x, 20);
        x.undo();
        x.undo();
        vote(x, 40);
        Check.due("votes", x.votes(0, 5), 41);
        Check.due("undo", x.undo(), 1);
        Check.due("votes", x.votes(0, 5), 1);
        Check.due("undo", x.undo(), 0);
        Check.due("no passage", x.passageCount(), 0);
    }

    // ---- snapshots

    /** "There are two snapshot slots, 0 and 1"; "false if there is no such slot" */
    private static void twoSlots() {
        for (int slot : new int[] {-1, 2, 3, 10, Integer.MIN_VALUE, Integer.MAX_VALUE}) {
            noChange("saveSnapshot(" + slot + ")", x -> {
                Check.due("saveSnapshot(" + slot + ")", x.saveSnapshot(slot), false);
                return 0;
            });
            noChange("restoreSnapshot(" + slot + ")", x -> {
                Check.due("restoreSnapshot(" + slot + ")", x.restoreSnapshot(slot), false);
                return 0;
            });
        }
        FreeFlowToll x = Check.with(NETWORK);
        for (int slot = 0; slot < 2; slot++) {
            vote(x, 1);
            Check.due("saveSnapshot(" + slot + ")", x.saveSnapshot(slot), true);
        }
        vote(x, 1);
        for (int slot = 0; slot < 2; slot++) {
            Check.due("restoreSnapshot(" + slot + ")", x.restoreSnapshot(slot), true);
            Check.due("votes", x.votes(0, 5), 1 + slot);
        }
    }

    /** "false, with nothing changed, if there is no such slot or it is empty" */
    private static void emptySlots() {
        noChange("restoreSnapshot(1)", x -> {
            Check.due("restoreSnapshot(1)", x.restoreSnapshot(1), false);
            return 0;
        });
        Bounds.changesNothing("restoreSnapshot(0)", BoundsOfChangesTest::calm, x -> {
            Check.due("restoreSnapshot(0)", x.restoreSnapshot(0), false);
            return 0;
        });
        Bounds.changesNothing("restoreSnapshot of a new object", FreeFlowToll::new, x -> {
            Check.due("restoreSnapshot(0)", x.restoreSnapshot(0), false);
            Check.due("restoreSnapshot(1)", x.restoreSnapshot(1), false);
            return 0;
        });
    }

    /** "Saves a snapshot": nothing else changes, and the history stays. */
    private static void savingChangesNothing() {
        for (int slot = 0; slot < 2; slot++) {
            FreeFlowToll x = Bounds.busy();
            FreeFlowToll twin = Bounds.busy();
            x.saveSnapshot(slot);
            Check.same("the answers", Bounds.answers(x), Bounds.answers(twin));
            Check.due("the changes", Check.undoAll(x), 10);
            Check.undoAll(twin);
            Check.same("the answers after undo", Bounds.answers(x), Bounds.answers(twin));
        }
    }

    /** "in place of what the slot held before" */
    private static void inPlaceOfBefore() {
        for (int slot = 0; slot < 2; slot++) {
            FreeFlowToll x = Check.with(NETWORK);
            for (int n = 1; n <= 4; n++) {
                vote(x, 10);
                Check.due("saveSnapshot", x.saveSnapshot(slot), true);
            }
            vote(x, 10);
            Check.due("restoreSnapshot", x.restoreSnapshot(slot), true);
            Check.due("votes", x.votes(0, 5), 40);
            x.parse(0);
            Check.due("saveSnapshot of nothing", x.saveSnapshot(slot), true);
            Check.due("restoreSnapshot", x.restoreSnapshot(slot), true);
            Check.due("passageCount", x.passageCount(), 0);
        }
    }

    /** "Restores a snapshot and clears the undo history." */
    private static void clearsHistory() {
        for (int changes : new int[] {0, 1, 9, 10, 11}) {
            FreeFlowToll x = Check.with(NETWORK);
            x.saveSnapshot(0);
            for (int n = 0; n < changes; n++) {
                vote(x, 1);
            }
            Check.due("restoreSnapshot", x.restoreSnapshot(0), true);
            Check.due("passageCount", x.passageCount(), 0);
            Check.due("undo", x.undo(), -1);
            Check.due("passageCount", x.passageCount(), 0);
        }
        FreeFlowToll x = Check.with(NETWORK);
        vote(x, 1);
        x.saveSnapshot(0);
        Check.due("a snapshot of just now", x.restoreSnapshot(0), true);
        Check.due("undo", x.undo(), -1);
        Check.due("votes", x.votes(0, 5), 1);
    }

    /** "The snapshot stays in its slot." */
    private static void staysInSlot() {
        FreeFlowToll x = Check.with(NETWORK);
        vote(x, 7);
        x.saveSnapshot(1);
        for (int n = 0; n < 4; n++) {
            vote(x, 10);
            x.dismiss(0);
            Check.due("restoreSnapshot", x.restoreSnapshot(1), true);
            Check.due("votes", x.votes(0, 5), 7);
            Check.due("open", x.passageState(0), 0);
        }
        Check.due("restored twice", x.restoreSnapshot(1), true);
        x.undo();
        Check.due("undo leaves the slot", x.restoreSnapshot(1), true);
        Check.due("votes", x.votes(0, 5), 7);
    }

    /** "a snapshot holds everything but ..": what comes back is what was saved. */
    private static void holdsEverything() {
        for (int slot = 0; slot < 2; slot++) {
            FreeFlowToll x = Bounds.busy();
            String saved = Bounds.answers(x);
            x.saveSnapshot(slot);
            x.resolve(0, true);
            x.pay(0, 1);
            x.pay(1, 1);
            x.readPlate(0, 2, 42, 9, 9);
            x.readAxles(0, 2, 42, 9);
            x.assignPlate(4, 11);
            x.assignAxles(5, 9);
            x.readTag(0, 0, 50, 1);
            x.bill(99999);
            x.restoreSnapshot(slot);
            Check.same("the answers", Bounds.answers(x), saved);
            Check.due("the latest time", Bounds.earliest(x), 41);
            Check.due("joining goes on", x.readAxles(0, 2, 42, 9), 4);
            Check.due("disputes go on", x.dispute(1), 2);
            Check.due("payments go on", x.pay(1, 27), 0);
        }
    }

    /** 80 passages, each with its own gantry, lane, time, votes and axles, and different ones for each kind. */
    private static void readings(FreeFlowToll x, int kind) {
        for (int n = 0; n < 80; n++) {
            x.readPlate((n + kind) % 3, (n / 3 + kind) % 4, 20 * n + kind, 1 + n + 100 * kind, 50 + kind);
            x.readAxles((n + kind) % 3, (n / 3 + kind) % 4, 20 * n + kind, 2 + (n + kind) % 8);
        }
    }

    private static void dueReadings(FreeFlowToll x, int kind) {
        Check.due("passageCount", x.passageCount(), 80);
        for (int n : new int[] {0, 1, 20, 21, 40, 78, 79}) {
            Check.due("passageGantry", x.passageGantry(n), (n + kind) % 3);
            Check.due("passageTime", x.passageTime(n), 20 * n + kind);
            Check.due("passagePlate", x.passagePlate(n), 1 + n + 100 * kind);
            Check.due("votes", x.votes(n, 1 + n + 100 * kind), 50 + kind);
            Check.due("no other votes", x.votes(n, 1 + n + 100 * (1 - kind)), 0);
            Check.due("passageAxles", x.passageAxles(n), 2 + (n + kind) % 8);
        }
        Check.due("the last lane", x.readTag((79 + kind) % 3, (79 / 3 + kind) % 4, 20 * 79 + kind, 0), 79);
    }

    /** "a snapshot holds everything": up to the last passage, and though others have had their numbers since. */
    private static void holdsEveryPassage() {
        for (int slot = 0; slot < 2; slot++) {
            FreeFlowToll x = Check.with(NETWORK);
            x.saveSnapshot(slot);
            readings(x, 0);
            x.saveSnapshot(1 - slot);
            x.restoreSnapshot(slot);
            readings(x, 1);
            x.saveSnapshot(slot);
            x.restoreSnapshot(1 - slot);
            dueReadings(x, 0);
            x.restoreSnapshot(slot);
            dueReadings(x, 1);
            Check.due("the tag of the last", x.undo(), 0);
            Check.due("the tag of the last", x.passageTag(79), -1);
        }
    }

    /** "a snapshot holds everything": up to the last invoice, and though others have had their numbers since. */
    private static void holdsEveryInvoice() {
        FreeFlowToll x = Check.with("gantries 3;link 0 1 9 10;link 1 2 9 30;class 2 50;class 4 200;tag 5 2;");
        x.saveSnapshot(0);
        for (int n = 0; n < 40; n++) {
            x.readPlate(0, 0, 10 * n, 101 + n, 60);
        }
        x.readPlate(1, 0, 395, 140, 60);
        x.bill(99999);
        x.pay(39, 9);
        x.dispute(38);
        x.saveSnapshot(1);
        x.restoreSnapshot(0);
        for (int n = 0; n < 40; n++) {
            x.readPlate(2, 0, 10 * n, 999 - n, 60);
            x.assignAxles(n, 4);
            x.readPlate(2, 1, 10 * n, 999 - n, 60);
        }
        x.dismiss(0);
        x.bill(99999);
        x.pay(38, 1);
        x.saveSnapshot(0);
        x.restoreSnapshot(1);
        int[] some = {0, 1, 37, 38, 39};
        for (int n : some) {
            Check.due("tripAmount", x.tripAmount(n), 5);
            Check.due("tripClass", x.tripClass(n), 0);
            Check.due("tripPassages", x.tripPassages(n), n == 39 ? 2 : 1);
            Check.due("tripState", x.tripState(n), n == 38 ? 1 : 0);
            Check.due("invoiceOf", x.invoiceOf(n), n);
            Check.due("invoicePlate", x.invoicePlate(n), 101 + n);
            Check.due("balance", x.balance(n), n == 39 ? -4 : 5);
            Check.due("passageState", x.passageState(n), 1);
            Check.due("tripOf", x.tripOf(n), n);
        }
        x.restoreSnapshot(0);
        Check.due("tripCount", x.tripCount(), 79);
        Check.due("tripPassages(39)", x.tripPassages(39), 1);
        Check.due("invoiceCount", x.invoiceCount(), 40);
        Check.due("passageState(0)", x.passageState(0), 2);
        Check.due("tripAmount(38)", x.tripAmount(38), 60);
        Check.due("tripClass(38)", x.tripClass(38), 1);
        Check.due("tripAmount(39)", x.tripAmount(39), 15);
        Check.due("tripClass(78)", x.tripClass(78), 0);
        Check.due("invoiceOf(78)", x.invoiceOf(78), 39);
        Check.due("invoicePlate(39)", x.invoicePlate(39), 960);
        Check.due("balance(38)", x.balance(38), 29);
        Check.due("balance(39)", x.balance(39), 30);
    }

    /** "but [..] the input buffer" */
    private static void butTheBuffer() {
        FreeFlowToll x = Check.with(NETWORK);
        Check.due("append", x.append(0x67616e74, 0x72696573, 0x20373b20, 0x20202020, 0x20202020), 20);
        x.saveSnapshot(0);
        Check.due("append", x.append(0x66656520, 0x393b2020, 0x20202020, 0x20202020, 0x20202020), 40);
        x.restoreSnapshot(0);
        Check.due("append", x.append(0x20202020, 0x20202020, 0x20202020, 0x20202020, 0x20202020), 60);
        Check.due("parse", x.parse(60), 0);
        Check.due("gantryCount", x.gantryCount(), 7);
        x.readPlate(6, 0, 0, 5, 60);
        Check.due("the fee", x.previewTotal(0), 9);
    }

    /** "and the slots" */
    private static void butTheSlots() {
        FreeFlowToll x = Check.with(NETWORK);
        vote(x, 1);
        x.saveSnapshot(0);
        vote(x, 2);
        x.saveSnapshot(1);
        vote(x, 4);
        x.restoreSnapshot(0);
        Check.due("slot 0", x.votes(0, 5), 1);
        Check.due("slot 1 was saved later and is still full", x.restoreSnapshot(1), true);
        Check.due("slot 1", x.votes(0, 5), 3);
        x.saveSnapshot(0);
        vote(x, 4);
        x.restoreSnapshot(0);
        Check.due("slot 0 anew", x.votes(0, 5), 3);
    }

    /** A snapshot of nothing is a snapshot: its slot is not empty. */
    private static void snapshotOfNothing() {
        FreeFlowToll x = new FreeFlowToll();
        Check.due("saveSnapshot(0)", x.saveSnapshot(0), true);
        Check.due("restoreSnapshot(1)", x.restoreSnapshot(1), false);
        Check.due("restoreSnapshot(0)", x.restoreSnapshot(0), true);
        FreeFlowToll y = Check.with(NETWORK);
        Check.due("saveSnapshot(1)", y.saveSnapshot(1), true);
        y.readTag(0, 0, 99999, 0);
        y.bill(99999);
        Check.due("restoreSnapshot(1)", y.restoreSnapshot(1), true);
        Check.same("the answers", Bounds.answers(y), Bounds.answers(Check.with(NETWORK)));
        Check.due("the latest time", Bounds.earliest(y), 0);
    }

    /** The latest time is that of the snapshot, be it earlier or later than now. */
    private static void timeOfSnapshot() {
        FreeFlowToll x = Check.with(NETWORK);
        x.readAxles(0, 0, 10, 2);
        x.readAxles(0, 0, 12, 2);
        x.saveSnapshot(0);
        x.readAxles(0, 0, 500, 2);
        x.saveSnapshot(1);
        x.restoreSnapshot(0);
        Check.due("earlier", Bounds.earliest(x), 12);
        x.restoreSnapshot(1);
        Check.due("later", Bounds.earliest(x), 500);
    }

    /** After a restore ten changes can be undone again, down to the snapshot. */
    private static void undoAfterRestore() {
        FreeFlowToll x = Check.with(NETWORK);
        vote(x, 1);
        x.saveSnapshot(0);
        for (int n = 0; n < 7; n++) {
            vote(x, 10);
        }
        x.restoreSnapshot(0);
        for (int n = 0; n < 10; n++) {
            vote(x, 20);
        }
        for (int n = 9; n >= 0; n--) {
            Check.due("undo", x.undo(), n);
        }
        Check.due("votes", x.votes(0, 5), 1);
        Check.due("undo", x.undo(), -1);
    }

    /** "clears the undo history and empties both slots" */
    private static void parseEmptiesSlots() {
        for (String text : new String[] {NETWORK, "gantries 2;", ""}) {
            FreeFlowToll x = Bounds.busy();
            x.saveSnapshot(1);
            Check.due("parse", Check.parse(x, text) >= 0, true);
            Check.due("undo", x.undo(), -1);
            Check.due("slot 0", x.restoreSnapshot(0), false);
            Check.due("slot 1", x.restoreSnapshot(1), false);
            Check.due("passageCount", x.passageCount(), 0);
            Check.due("saveSnapshot(1)", x.saveSnapshot(1), true);
            Check.due("slot 0 is still empty", x.restoreSnapshot(0), false);
            Check.due("slot 1", x.restoreSnapshot(1), true);
        }
    }

    /** "A method that throws an exception changes nothing.": here each of those that change data. */
    private static void throwingChangesNothing() {
        Bounds.badArgument("readTag", Bounds::busy, x -> x.readTag(0, 0, 40, 0));
        Bounds.badArgument("readPlate", Bounds::busy, x -> x.readPlate(0, 0, 41, 5, 0));
        Bounds.badArgument("readAxles", Bounds::busy, x -> x.readAxles(0, 0, 99999, 10));
        Bounds.badArgument("assignPlate", Bounds::busy, x -> x.assignPlate(5, 0));
        Bounds.badState("assignPlate", Bounds::busy, x -> x.assignPlate(0, 5));
        Bounds.badArgument("assignAxles", Bounds::busy, x -> x.assignAxles(5, 0));
        Bounds.badState("assignAxles", Bounds::busy, x -> x.assignAxles(0, 5));
        Bounds.badIndex("dismiss", Bounds::busy, x -> x.dismiss(6));
        Bounds.badState("dismiss", Bounds::busy, x -> x.dismiss(3));
        Bounds.badArgument("bill", Bounds::busy, x -> x.bill(100000));
        Bounds.badArgument("pay", Bounds::busy, x -> x.pay(1, 0));
        Bounds.badIndex("pay", Bounds::busy, x -> x.pay(2, 1));
        Bounds.badState("dispute", Bounds::busy, x -> x.dispute(0));
        Bounds.badIndex("dispute", Bounds::busy, x -> x.dispute(2));
        Bounds.badState("resolve", Bounds::busy, x -> x.resolve(1, true));
        Bounds.badIndex("resolve", Bounds::busy, x -> x.resolve(2, true));
    }

    /** "An object is used for at most 512 calls after it has been made": the 512th answers as the first. */
    private static void lastOf512Calls() {
        FreeFlowToll x = new FreeFlowToll();
        x.append(1734438516, 1919509875, 540162924, 1768844064, 807416096);
        x.append(958411056, 809202785, 1730164021, 540162918, 1701126199);
        x.append(989855744, 0, 0, 0, 0);
        x.parse(41);
        int calls = 4;
        for (int n = 0; n < 80; n++) {
            x.readPlate(n % 2, 0, 10 * n, 77, 100);
            calls++;
        }
        x.bill(0);
        calls++;
        while (calls < 505) {
            x.pay(0, 100000);
            calls++;
        }
        Check.due("call 506, after 420 payments", x.balance(0), 107 - 42000000);
        Check.due("call 507", x.undo(), 9);
        Check.due("call 508", x.pay(0, 1), 107 - 41900001);
        Check.due("call 509", x.saveSnapshot(1), true);
        Check.due("call 510", x.bill(99999) > 0, true);
        Check.due("call 511", x.restoreSnapshot(1), true);
        Check.due("call 512", x.openPassages(), 79);
    }
}
