import java.util.List;
import java.util.function.Consumer;

/** Promises 46 to 48: undo, saveSnapshot, restoreSnapshot. */
public final class HistoryTest {
    private static final String NETWORK = "gantries 3;link 0 1 10 100;link 1 2 10 50;class 3 150;tag 11 3;fee 7;";

    public static void main(String[] args) {
        everyChange();
        tenChanges();
        newChangesAfterUndo();
        noChanges();
        snapshots();
        snapshotHoldsEverything();
        oneStateOverAnother();
        twoSlots();
        historyAndSlots();
        wrongSlots();
        Check.end("HistoryTest");
    }

    private static final List<Consumer<FreeFlowToll>> CHANGES = List.of(
            x -> x.readTag(0, 0, 10, 0), x -> x.readPlate(0, 1, 11, 99, 60), x -> x.readAxles(0, 1, 12, 5),
            x -> x.assignPlate(1, 98), x -> x.assignAxles(1, 3), x -> x.readPlate(1, 0, 14, 97, 1),
            x -> x.dismiss(2), x -> x.bill(99999), x -> x.pay(1, 50), x -> x.dispute(0));

    private static FreeFlowToll changed(int changes) {
        FreeFlowToll x = Check.with(NETWORK);
        CHANGES.subList(0, changes).forEach(change -> change.accept(x));
        return x;
    }

    private static void everyChange() {
        for (int left = 9; left >= 0; left--) {
            FreeFlowToll x = changed(10);
            for (int n = 9; n >= left; n--) {
                Check.due("46 undo", x.undo(), n);
            }
            Check.same("46 undo takes back change " + left, Check.dump(x), Check.dump(changed(left)));
        }
        FreeFlowToll x = changed(10);
        Check.due("46 ten changes", Check.undoAll(x), 10);
        Check.due("46 nothing more to undo", x.undo(), -1);
        Check.due("46 the time was taken back", x.readTag(0, 0, 0, 0), 0);

        FreeFlowToll y = Check.with(NETWORK);
        y.readTag(0, 0, 10, 0);
        y.bill(10);
        y.dispute(0);
        String disputed = Check.dump(y);
        y.resolve(0, true);
        Check.due("46 undo resolve", y.undo(), 3);
        Check.same("46 undo resolve", Check.dump(y), disputed);
        Check.due("45 resolve again", y.resolve(0, false), 150);
    }

    private static void tenChanges() {
        FreeFlowToll x = Check.with(NETWORK);
        for (int n = 0; n < 25; n++) {
            x.readAxles(n % 3, 0, 10 * n, 2 + n % 8);
        }
        for (int n = 9; n >= 0; n--) {
            Check.due("46 undo", x.undo(), n);
            Check.due("10 passageCount after undo", x.passageCount(), 15 + n);
        }
        Check.due("46 only ten changes", x.undo(), -1);
        Check.due("10 passageCount", x.passageCount(), 15);
        Check.due("46 only ten times were taken back", x.readAxles(0, 1, 140, 2), 15);
        Check.due("46 undo once more", x.undo(), 0);
    }

    private static void newChangesAfterUndo() {
        FreeFlowToll x = Check.with(NETWORK);
        x.readPlate(0, 0, 1, 5, 70);
        x.readPlate(0, 0, 1, 6, 80);
        Check.due("46 undo", x.undo(), 1);
        Check.due("16 the votes were taken back", x.votes(0, 6), 0);
        x.readPlate(0, 0, 1, 7, 90);
        Check.due("46 undo the new change", x.undo(), 1);
        Check.due("14 back at the first reading", x.passagePlate(0), 5);
        Check.due("46 undo the old change", x.undo(), 0);
        Check.due("10 no passage", x.passageCount(), 0);
        x.readAxles(0, 0, 0, 3);
        Check.due("14 a new passage has no old plates", x.passagePlate(0), -1);
        Check.due("16 a new passage has no old votes", x.votes(0, 5), 0);
        x.undo();
        x.readTag(0, 0, 0, 0);
        Check.due("15 a new passage has no old axles", x.passageAxles(0), -1);
        x.assignPlate(0, 9);
        x.assignAxles(0, 9);
        x.dismiss(0);
        for (int n = 0; n < 4; n++) {
            x.undo();
        }
        x.readPlate(1, 1, 0, 8, 5);
        Check.due("13 a new passage has no old tag", x.passageTag(0), -1);
        Check.due("14 a new passage has no old plate by hand", x.passagePlate(0), -1);
        Check.due("15 a new passage has no old axles by hand", x.passageAxles(0), -1);
        Check.due("18 a new passage is open", x.passageState(0), 0);
    }

    private static void noChanges() {
        FreeFlowToll x = Check.with(NETWORK);
        x.readTag(0, 0, 1, 0);
        x.saveSnapshot(0);
        Check.dump(x);
        x.bill(0);
        Check.dueThrow("dismiss(1)", IndexOutOfBoundsException.class, () -> x.dismiss(1));
        Check.due("46 questions, snapshots and what throws are no changes", Check.undoAll(x), 1);
        x.readPlate(0, 0, 1, 1, 10);
        x.readPlate(0, 0, 1, 2, 10);
        x.readPlate(0, 0, 1, 3, 10);
        x.readPlate(0, 0, 1, 4, 10);
        x.readPlate(0, 0, 1, 5, 10);
        x.assignPlate(0, 4);
        x.assignPlate(0, 4);
        Check.due("46 a change that shows nothing is a change", Check.undoAll(x), 7);
    }

    private static void snapshots() {
        FreeFlowToll x = Check.with(NETWORK);
        x.readTag(0, 0, 10, 0);
        Check.due("47 saveSnapshot(0)", x.saveSnapshot(0), true);
        String saved = Check.dump(x);
        x.readPlate(1, 0, 11, 99, 60);
        x.bill(11);
        String billed = Check.dump(x);
        Check.due("48 the other slot is empty", x.restoreSnapshot(1), false);
        Check.same("48 an empty slot changes nothing", Check.dump(x), billed);
        Check.due("48 an empty slot leaves the history", x.undo(), 2);
        Check.due("48 restoreSnapshot(0)", x.restoreSnapshot(0), true);
        Check.same("48 restoreSnapshot(0)", Check.dump(x), saved);
        Check.due("48 the history is cleared", x.undo(), -1);
        Check.due("48 the time is restored", x.readAxles(0, 0, 10, 3), 0);
        x.dismiss(0);
        Check.due("48 the snapshot stays", x.restoreSnapshot(0), true);
        Check.same("48 the snapshot stays as it was", Check.dump(x), saved);
        x.dismiss(0);
        Check.due("46 changes after a restore can be undone", x.undo(), 0);
        Check.same("46 back at the snapshot", Check.dump(x), saved);
    }

    private static void snapshotHoldsEverything() {
        FreeFlowToll x = Check.with(NETWORK);
        x.readTag(0, 0, 10, 0);
        x.readPlate(0, 1, 10, 99, 70);
        x.readPlate(0, 1, 11, 98, 80);
        x.readAxles(0, 1, 11, 5);
        x.readAxles(1, 2, 12, 5);
        x.assignPlate(2, 77);
        x.assignAxles(2, 3);
        x.readTag(2, 0, 13, 0);
        x.dismiss(3);
        x.bill(99999);
        x.pay(0, 10);
        x.dispute(0);
        x.dispute(1);
        x.dispute(2);
        x.resolve(0, true);
        x.resolve(1, false);
        x.readAxles(2, 3, 20, 4);
        String saved = Check.dump(x);
        x.saveSnapshot(1);
        x.resolve(2, true);
        x.pay(1, 999);
        x.assignPlate(4, 5);
        x.readTag(2, 3, 21, 0);
        x.bill(99999);
        x.restoreSnapshot(1);
        Check.same("48 everything comes back", Check.dump(x), saved);
        Check.due("48 the votes come back", x.votes(1, 99), 70);
        Check.due("48 joining goes on", x.readPlate(2, 3, 20, 4, 4), 4);
        Check.dueThrow("48 the time comes back", IllegalArgumentException.class, () -> x.readAxles(0, 0, 19, 2));
    }

    /** A snapshot comes back whole, though other passages, trips and invoices have had its numbers. */
    private static void oneStateOverAnother() {
        FreeFlowToll x = Check.with(NETWORK);
        x.saveSnapshot(1);
        x.readPlate(0, 1, 10, 99, 70);
        x.readPlate(0, 1, 10, 98, 20);
        x.readAxles(0, 1, 10, 2);
        x.readTag(1, 0, 12, 0);
        x.readTag(2, 0, 13, 0);
        x.bill(99999);
        x.pay(0, 5);
        x.dispute(1);
        x.readPlate(2, 1, 14, 97, 30);
        String saved = Check.dump(x);
        x.saveSnapshot(0);
        x.restoreSnapshot(1);
        x.readTag(1, 2, 20, 0);
        x.readTag(1, 2, 90, 0);
        x.bill(90);
        x.readPlate(2, 0, 91, 55, 90);
        x.readPlate(2, 0, 91, 54, 90);
        x.readAxles(0, 3, 92, 9);
        x.assignPlate(3, 44);
        x.assignAxles(3, 2);
        x.readTag(0, 2, 300, 0);
        x.dismiss(4);
        x.bill(99999);
        x.pay(1, 1);
        String other = Check.dump(x);
        x.restoreSnapshot(0);
        Check.same("48 the first state comes back", Check.dump(x), saved);
        Check.due("48 its votes", x.votes(0, 98), 20);
        Check.due("48 its votes", x.votes(1, 54), 0);
        Check.due("48 its votes", x.votes(3, 97), 30);
        Check.due("48 its lanes", x.readAxles(2, 1, 15, 5), 3);
        x.dismiss(3);
        x.undo();
        x.undo();
        Check.same("46 and by undo", Check.dump(x), saved);
        Check.due("these are different states", saved.equals(other), false);
    }

    private static void twoSlots() {
        FreeFlowToll x = Check.with(NETWORK);
        x.saveSnapshot(0);
        x.readTag(0, 0, 10, 0);
        x.saveSnapshot(1);
        x.readTag(1, 0, 11, 0);
        Check.due("48 slot 1", x.restoreSnapshot(1), true);
        Check.due("48 slot 1", x.passageCount(), 1);
        Check.due("48 slot 0", x.restoreSnapshot(0), true);
        Check.due("48 slot 0 is a saved snapshot of nothing", x.passageCount(), 0);
        x.readTag(1, 0, 5, 0);
        x.readTag(2, 0, 6, 0);
        Check.due("47 in place of what it held", x.saveSnapshot(0), true);
        x.restoreSnapshot(1);
        Check.due("48 slot 1 again", x.passageTime(0), 10);
        x.restoreSnapshot(0);
        Check.due("48 slot 0 anew", x.passageCount(), 2);
    }

    private static void historyAndSlots() {
        FreeFlowToll x = Check.with(NETWORK);
        x.readTag(0, 0, 10, 0);
        x.readTag(1, 0, 11, 0);
        x.saveSnapshot(0);
        Check.due("47 saving leaves the history", x.undo(), 1);
        Check.due("46 undo leaves the slots", x.restoreSnapshot(0), true);
        Check.due("48 two passages", x.passageCount(), 2);
        x.parse(0);
        Check.due("3 parse empties the slot", x.restoreSnapshot(0), false);
        Check.parse(x, NETWORK);
        Check.due("3 the slot stays empty", x.restoreSnapshot(0), false);
        x.readTag(0, 0, 3, 0);
        Check.due("47 a slot can be filled again", x.saveSnapshot(0), true);
        x.dismiss(0);
        Check.due("48 a slot can be filled again", x.restoreSnapshot(0), true);
        Check.due("18 the passage is open", x.passageState(0), 0);
        FreeFlowToll y = new FreeFlowToll();
        Check.due("47 a new object", y.saveSnapshot(1), true);
        Check.due("48 a new object", y.restoreSnapshot(1), true);
        Check.due("48 a new object", y.restoreSnapshot(0), false);
    }

    private static void wrongSlots() {
        FreeFlowToll x = Check.with(NETWORK);
        x.readTag(0, 0, 10, 0);
        x.saveSnapshot(0);
        x.saveSnapshot(1);
        x.readTag(1, 0, 11, 0);
        String before = Check.dump(x);
        for (int slot : new int[] {-1, 2, 3, Integer.MIN_VALUE, Integer.MAX_VALUE}) {
            Check.due("47 saveSnapshot(" + slot + ")", x.saveSnapshot(slot), false);
            Check.due("48 restoreSnapshot(" + slot + ")", x.restoreSnapshot(slot), false);
            Check.same("48 a wrong slot changes nothing", Check.dump(x), before);
        }
        Check.due("48 a wrong slot leaves the history", x.undo(), 1);
    }
}
