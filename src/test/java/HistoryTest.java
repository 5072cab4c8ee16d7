/** Promises 13 to 15: undo, keep, restore. */
public final class HistoryTest {
    private static final Due DUE = new Due("HistoryTest");

    public static void main(String[] args) {
        undoes();
        keepsFourStates();
        restoresAllOfTheState();
        recordsActsAlone();
        recordsNoFailedAct();
        failedActsLeaveNothingBehind();
        keepsAndRestores();
        snapshotStaysBehindUndo();
        DUE.end();
    }

    private static void undoes() {
        LentSectors x = new LentSectors();
        DUE.is("13: undo()", x.undo(), LentSectors.NONE);
        x.write(1, 10);
        x.write(1, 20);
        DUE.is("13: undo()", x.undo(), 1);
        DUE.is("13: address(1, 0)", x.address(1, 0), 10);
        DUE.is("13: count(12)", x.count(12), 1);
        x.write(1, 30);
        DUE.is("13: count(12)", x.count(12), 2);
        DUE.is("13: undo()", x.undo(), 1);
        DUE.is("13: address(1, 0)", x.address(1, 0), 10);
        DUE.is("13: undo()", x.undo(), 0);
        DUE.is("13: address(1, 0)", x.address(1, 0), 0);
        DUE.is("13: undo()", x.undo(), LentSectors.NONE);
    }

    private static void keepsFourStates() {
        LentSectors x = new LentSectors();
        for (int value = 1; value <= 9; value++) {
            x.write(1, value);
            DUE.is("13: count(12)", x.count(12), Math.min(value, 4));
        }
        for (int left = 3; left >= 0; left--) {
            DUE.is("13: undo()", x.undo(), left);
            DUE.is("13: address(1, 0)", x.address(1, 0), 5 + left);
        }
        DUE.is("13: undo()", x.undo(), LentSectors.NONE);
        DUE.is("13: address(1, 0)", x.address(1, 0), 5);
        DUE.is("13: count(11)", x.count(11), 5);
    }

    private static LentSectors someState() {
        LentSectors x = new LentSectors();
        x.setLimit(4);
        x.write(20, 77);
        x.setHead(2, false, 6);
        return x;
    }

    private static void restoresAllOfTheState() {
        LentSectors x = someState();
        x.setLimit(1);
        DUE.is("13: giveUp(1)", x.giveUp(1), 0);
        x.setHead(3, true, 9);
        x.read(49);
        for (int left = 3; left >= 0; left--) {
            DUE.is("13: undo()", x.undo(), left);
        }
        DUE.is("13: state as before", Calls.state(x).equals(Calls.state(someState())) ? 1 : 0, 1);
    }

    private static void recordsActsAlone() {
        LentSectors x = new LentSectors();
        x.keep();
        x.type('r');
        x.type('1');
        x.address(0, 0);
        x.sector(0, 0);
        x.head(0, 0);
        x.readsLeft(0);
        x.wouldLose(0);
        x.worst(0);
        x.count(0);
        x.undo();
        DUE.is("13: count(12)", x.count(12), 0);
        int states = 0;
        DUE.is("13: setLimit(9)", x.setLimit(9), 30);
        DUE.is("13: count(12)", x.count(12), ++states);
        DUE.is("13: setHead(0, true, 9)", x.setHead(0, true, 9), 1);
        DUE.is("13: count(12)", x.count(12), ++states);
        DUE.is("13: setHead(0, false, 5)", x.setHead(0, false, 5), 4);
        DUE.is("13: count(12)", x.count(12), ++states);
        DUE.is("13: read(0)", x.read(0), 0);
        DUE.is("13: count(12)", x.count(12), ++states);
        x.undo();
        x.undo();
        states = 2;
        DUE.is("13: write(0, 4)", x.write(0, 4), 12);
        DUE.is("13: count(12)", x.count(12), ++states);
        x.undo();
        DUE.is("13: copy(0, 1, 3)", x.copy(0, 1, 3), 3);
        DUE.is("13: count(12)", x.count(12), states);
        x.undo();
        DUE.is("13: test(0)", x.test(0), 12);
        DUE.is("13: count(12)", x.count(12), states);
        x.undo();
        DUE.is("13: perform()", x.perform(), 1);
        DUE.is("13: count(12)", x.count(12), states);
        x.setLimit(99);
        DUE.is("13: giveBack(1)", x.giveBack(1), 12);
        DUE.is("13: count(12)", x.count(12), 4);
        x.undo();
        x.undo();
        DUE.is("13: giveUp(3), as 12 is lent to 1", x.giveUp(3), 1);
        DUE.is("13: count(12)", x.count(12), 3);
        x.undo();
        DUE.is("13: restore()", x.restore(), 0);
        DUE.is("13: count(12)", x.count(12), 3);
    }

    private static void recordsNoFailedAct() {
        LentSectors x = new LentSectors();
        x.write(1, 10);
        x.setLimit(30);
        x.setLimit(0);
        x.setHead(0, true, 1);
        x.setHead(0, false, 5);
        x.setHead(4, false, 5);
        x.read(12);
        x.write(1, 1000);
        x.copy(0, 12, 1);
        x.copy(0, 1, 17);
        x.test(4);
        x.perform();
        x.giveBack(1);
        x.giveBack(12);
        x.giveUp(4);
        x.restore();
        DUE.is("13: count(12)", x.count(12), 1);
        DUE.is("13: undo()", x.undo(), 0);
        DUE.is("13: address(1, 0)", x.address(1, 0), 0);
    }

    /** What a call that failed had begun must not come up with the next act. */
    private static void failedActsLeaveNothingBehind() {
        LentSectors x = new LentSectors();
        Calls.typeAll(x, "w1=10;r2;r12");
        DUE.is("13: perform()", x.perform(), LentSectors.UNKNOWN);
        DUE.is("13: setLimit(40)", x.setLimit(40), 30);
        DUE.is("13: address(1, 0)", x.address(1, 0), 0);
        DUE.is("13: wouldLose(1)", x.wouldLose(1), 0);
        DUE.is("13: setHead(0, true, 5)", x.setHead(0, true, 5), 1);
        DUE.is("13: head(1, 3)", x.head(1, 3), 0);
        DUE.is("13: perform()", x.perform(), LentSectors.UNKNOWN);
        DUE.is("13: read(3)", x.read(3), 0);
        DUE.is("13: perform()", x.perform(), LentSectors.UNKNOWN);
        DUE.is("13: write(4, 9)", x.write(4, 9), 4);
        DUE.is("13: wouldLose(1)", x.wouldLose(1), 0);
        DUE.is("13: copy(4, 5, 1)", x.copy(4, 5, 1), 1);
        DUE.is("13: wouldLose(1)", x.wouldLose(1), 0);
        DUE.is("13: test(0)", x.test(0), 0);
        DUE.is("13: perform()", x.perform(), LentSectors.UNKNOWN);
        DUE.is("13: giveUp(3)", x.giveUp(3), 0);
        DUE.is("13: address(1, 0)", x.address(1, 0), 0);
        DUE.is("13: head(1, 3)", x.head(1, 3), 0);
        DUE.is("13: count(10)", x.count(10), 1 + 1 + 12);
        DUE.is("13: count(11)", x.count(11), 2);
        x.undo();
        x.undo();
        x.undo();
        DUE.is("13: write(6, 1), behind undo()", x.write(6, 1), 6);
        DUE.is("13: count(10)", x.count(10), 1);
        DUE.is("13: count(11)", x.count(11), 2);
    }

    private static void keepsAndRestores() {
        LentSectors x = someState();
        DUE.is("15: restore()", x.restore(), LentSectors.NONE);
        DUE.is("14: keep()", x.keep(), 14);
        DUE.is("14: count(12), no act", x.count(12), 3);
        x.setLimit(1);
        x.write(20, 60);
        x.setHead(0, true, 9);
        x.giveUp(0);
        DUE.is("15: restore()", x.restore(), 14);
        DUE.is("15: state as it was", Calls.state(x).equals(Calls.state(someState())) ? 1 : 0, 1);

        LentSectors y = new LentSectors();
        y.write(5, 50);
        y.keep();
        y.write(20, 60);
        DUE.is("15: count(12)", y.count(12), 2);
        DUE.is("15: restore()", y.restore(), 5);
        DUE.is("15: count(12), an act", y.count(12), 3);
        DUE.is("15: restore(), which changes nothing", y.restore(), 5);
        DUE.is("15: count(12), an act all the same", y.count(12), 4);
        DUE.is("15: address(20, 0)", y.address(20, 0), 0);
        y.undo();
        y.undo();
        DUE.is("15: address(20, 0)", y.address(20, 0), 60);
        DUE.is("14: keep(), in place of the other", y.keep(), 8);
        y.write(20, 70);
        DUE.is("15: restore()", y.restore(), 8);
        DUE.is("15: address(20, 0)", y.address(20, 0), 60);
    }

    private static void snapshotStaysBehindUndo() {
        LentSectors x = new LentSectors();
        x.write(1, 10);
        x.keep();
        x.undo();
        DUE.is("14: address(1, 0)", x.address(1, 0), 0);
        DUE.is("15: restore()", x.restore(), 1);
        DUE.is("15: address(1, 0)", x.address(1, 0), 10);
        x.undo();
        DUE.is("15: address(1, 0)", x.address(1, 0), 0);
        DUE.is("15: restore()", x.restore(), 1);
        x.write(1, 20);
        DUE.is("15: restore(), the snapshot is no part of what was written", x.restore(), 1);
        DUE.is("15: address(1, 0)", x.address(1, 0), 10);
    }
}
