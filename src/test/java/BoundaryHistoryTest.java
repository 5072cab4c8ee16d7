import java.util.function.ToIntFunction;

/** The boundary cases of promises 13 to 15, a test for each sentence: undo, keep, restore. */
public final class BoundaryHistoryTest {
    private static final Due DUE = new Due("BoundaryHistoryTest");
    private static final Unchanged UNCHANGED = new Unchanged(DUE);

    public static void main(String[] args) {
        DUE.runSentences(BoundaryHistoryTest.class, 13, 14, 15);
        DUE.end();
    }

    // "Returns the number of states that are left; NONE if the history is empty."

    static void promise13AnEmptyHistoryIsNone() {
        UNCHANGED.on(LentSectors::new, LentSectors.NONE, "undo()", LentSectors::undo);
    }

    private static LentSectors withAllUndone() {
        LentSectors x = Calls.used();
        for (int i = 0; i < 4; i++) {
            x.undo();
        }
        return x;
    }

    static void promise13AHistoryThatWasUsedUpIsNone() {
        UNCHANGED.on(BoundaryHistoryTest::withAllUndone, LentSectors.NONE, "undo()", LentSectors::undo);
    }

    static void promise13TheLastStateLeaves0() {
        LentSectors x = new LentSectors();
        x.write(1, 10);
        DUE.is("undo()", x.undo(), 0);
        DUE.is("address(1, 0)", x.address(1, 0), 0);
        DUE.is("undo()", x.undo(), LentSectors.NONE);
    }

    static void promise13TheLatestStateIsRestored() {
        LentSectors x = new LentSectors();
        x.write(1, 10);
        x.write(1, 20);
        x.write(1, 30);
        DUE.is("undo()", x.undo(), 2);
        DUE.is("address(1, 0)", x.address(1, 0), 20);
        DUE.is("undo()", x.undo(), 1);
        DUE.is("address(1, 0)", x.address(1, 0), 10);
    }

    static void promise13ItIsNoActItself() {
        LentSectors x = new LentSectors();
        x.write(1, 10);
        x.write(1, 20);
        x.undo();
        DUE.is("count(12)", x.count(12), 1);
        x.undo();
        DUE.is("count(12)", x.count(12), 0);
        DUE.is("address(1, 0)", x.address(1, 0), 0);
    }

    // "A history of at most 4 states is kept; when one more is recorded, the oldest one is dropped"

    static void promise13FourStatesAreKept() {
        LentSectors x = new LentSectors();
        for (int value = 1; value <= 4; value++) {
            x.write(1, value);
            DUE.is("count(12)", x.count(12), value);
        }
        for (int left = 3; left >= 0; left--) {
            DUE.is("undo()", x.undo(), left);
            DUE.is("address(1, 0)", x.address(1, 0), left);
        }
    }

    static void promise13TheFifthStateDropsTheOldestOne() {
        LentSectors x = new LentSectors();
        for (int value = 1; value <= 5; value++) {
            x.write(1, value);
        }
        DUE.is("count(12)", x.count(12), 4);
        for (int left = 3; left >= 0; left--) {
            DUE.is("undo()", x.undo(), left);
            DUE.is("address(1, 0)", x.address(1, 0), left + 1);
        }
        DUE.is("undo()", x.undo(), LentSectors.NONE);
        DUE.is("address(1, 0)", x.address(1, 0), 1);
    }

    static void promise13ManyActsLeaveTheLastFourStates() {
        for (int acts = 6; acts <= 14; acts++) {
            LentSectors x = new LentSectors();
            for (int value = 1; value <= acts; value++) {
                x.write(1, value);
            }
            for (int left = 3; left >= 0; left--) {
                DUE.is("undo() behind " + acts, x.undo(), left);
                DUE.is("address(1, 0) behind " + acts, x.address(1, 0), acts - 4 + left);
            }
            DUE.is("undo() behind " + acts, x.undo(), LentSectors.NONE);
        }
    }

    static void promise13ActsBehindUndoTakeThePlaceOfWhatWasUndone() {
        for (int before = 1; before <= 9; before++) {
            LentSectors x = new LentSectors();
            for (int value = 1; value <= before; value++) {
                x.write(1, value);
            }
            x.undo();
            x.write(1, 500);
            x.write(1, 600);
            DUE.is("undo()", x.undo() >= 0 ? 1 : 0, 1);
            DUE.is("address(1, 0)", x.address(1, 0), 500);
            x.undo();
            DUE.is("address(1, 0)", x.address(1, 0), before - 1);
        }
    }

    static void promise13AFullHistoryHasRoomForOneBehindUndo() {
        LentSectors x = new LentSectors();
        for (int value = 1; value <= 4; value++) {
            x.write(1, value);
        }
        x.undo();
        x.write(1, 500);
        DUE.is("count(12)", x.count(12), 4);
        for (int left = 3; left >= 0; left--) {
            DUE.is("undo()", x.undo(), left);
        }
        DUE.is("address(1, 0), the first state was not dropped", x.address(1, 0), 0);
    }

    // "Each call of a method that is described as an act, and returns no error and not NONE, records the state
    // that was before it."

    private static void records(String call, int answer, ToIntFunction<LentSectors> act) {
        LentSectors x = new LentSectors();
        x.setLimit(5);
        x.write(20, 7);
        x.write(20, 7);
        x.undo();
        x.keep();
        Calls.typeAll(x, "r20;w1=1");
        DUE.is(call, act.applyAsInt(x), answer);
        DUE.is("count(12) behind " + call, x.count(12), 3);
        DUE.is("undo()", x.undo(), 2);
        LentSectors y = new LentSectors();
        y.setLimit(5);
        y.write(20, 7);
        Calls.typeAll(y, "r20;w1=1");
        DUE.same("state behind " + call + " and undo()", Calls.state(x), Calls.state(y));
    }

    static void promise13EachActIsRecorded() {
        records("setLimit(9)", 5, x -> x.setLimit(9));
        records("setHead(0, true, 5)", 1, x -> x.setHead(0, true, 5));
        records("setHead(0, false, 5)", 4, x -> x.setHead(0, false, 5));
        records("read(20)", 7, x -> x.read(20));
        records("read(0)", 0, x -> x.read(0));
        records("write(20, 9)", 28, x -> x.write(20, 9));
        records("copy(20, 0, 3)", 3, x -> x.copy(20, 0, 3));
        records("test(1)", 1, x -> x.test(1));
        records("test(0)", 0, x -> x.test(0));
        records("perform()", 2, x -> x.perform());
        records("giveUp(1)", 0, x -> x.giveUp(1));
        records("restore()", 6, x -> x.restore());
    }

    static void promise13GivingBackIsRecorded() {
        LentSectors x = new LentSectors();
        x.setLimit(4);
        x.write(20, 77);
        x.setLimit(9);
        DUE.is("giveBack(20)", x.giveBack(20), 28);
        DUE.is("count(12)", x.count(12), 4);
        DUE.is("undo()", x.undo(), 3);
        DUE.is("address(20, 1)", x.address(20, 1), 28);
    }

    static void promise13NoneAndErrorsAreNotRecorded() {
        LentSectors x = new LentSectors();
        x.write(1, 10);
        Calls.typeAll(x, "r12");
        DUE.is("setLimit(30)", x.setLimit(30), LentSectors.NONE);
        DUE.is("setLimit(0)", x.setLimit(0), LentSectors.BAD_VALUE);
        DUE.is("setHead(0, true, 1)", x.setHead(0, true, 1), LentSectors.NONE);
        DUE.is("setHead(0, false, 1)", x.setHead(0, false, 1), LentSectors.NOT_POSSIBLE);
        DUE.is("read(12)", x.read(12), LentSectors.UNKNOWN);
        DUE.is("write(1, -1)", x.write(1, -1), LentSectors.BAD_VALUE);
        DUE.is("copy(1, 2, 0)", x.copy(1, 2, 0), LentSectors.BAD_VALUE);
        DUE.is("test(4)", x.test(4), LentSectors.UNKNOWN);
        DUE.is("perform()", x.perform(), LentSectors.UNKNOWN);
        DUE.is("giveBack(1)", x.giveBack(1), LentSectors.NONE);
        DUE.is("giveUp(4)", x.giveUp(4), LentSectors.UNKNOWN);
        DUE.is("restore()", x.restore(), LentSectors.NONE);
        DUE.is("count(12)", x.count(12), 1);
        DUE.is("undo()", x.undo(), 0);
        DUE.is("address(1, 0)", x.address(1, 0), 0);
    }

    // "A state is everything but the text, the history and the snapshot."

    static void promise13AllOfTheStateComesBack() {
        LentSectors x = Calls.used();
        x.setLimit(1);
        x.giveUp(1);
        x.setHead(3, true, 9);
        x.read(49);
        for (int i = 0; i < 4; i++) {
            x.undo();
        }
        DUE.same("state", Calls.state(x), Calls.state(Calls.used()));
        LentSectors y = Calls.used();
        y.setHead(3, false, 6);
        y.test(1);
        y.giveBack(20);
        y.copy(0, 1, 5);
        for (int i = 0; i < 3; i++) {
            y.undo();
        }
        DUE.same("state", Calls.state(y), Calls.state(Calls.used()));
        DUE.is("address(20, 5)", y.address(20, 5), 1);
        DUE.is("sector(28, 3)", y.sector(28, 3), 20);
    }

    static void promise13TheTextDoesNotComeBack() {
        LentSectors x = new LentSectors();
        Calls.typeAll(x, "r1");
        x.write(1, 10);
        x.type(';');
        x.undo();
        DUE.is("count(13)", x.count(13), 3);
        DUE.is("perform()", x.perform(), -103);
    }

    static void promise13TheSnapshotDoesNotGoBack() {
        LentSectors x = new LentSectors();
        x.write(1, 10);
        x.keep();
        x.undo();
        DUE.is("restore()", x.restore(), 1);
        DUE.is("address(1, 0)", x.address(1, 0), 10);
    }

    // "Takes a snapshot of the state, in place of the one that was." "Returns the steps so far."

    static void promise14OfANewObjectTheStepsAre0() {
        LentSectors x = new LentSectors();
        DUE.is("keep()", x.keep(), 0);
        DUE.is("restore(), no NONE any more", x.restore(), 0);
    }

    static void promise14TheStepsSoFarAreReturned() {
        LentSectors x = Calls.used();
        DUE.is("keep()", x.keep(), x.count(7));
        x.read(37);
        DUE.is("keep()", x.keep(), x.count(7));
    }

    static void promise14ANewSnapshotTakesThePlaceOfTheOneThatWas() {
        LentSectors x = new LentSectors();
        x.write(1, 10);
        x.keep();
        x.write(1, 20);
        x.keep();
        x.write(1, 30);
        x.restore();
        DUE.is("address(1, 0)", x.address(1, 0), 20);
        x.undo();
        x.undo();
        x.undo();
        DUE.is("address(1, 0)", x.address(1, 0), 10);
        x.restore();
        DUE.is("address(1, 0)", x.address(1, 0), 20);
    }

    static void promise14ItIsNoAct() {
        LentSectors x = new LentSectors();
        x.write(1, 10);
        x.keep();
        DUE.is("count(12)", x.count(12), 1);
        DUE.is("undo()", x.undo(), 0);
        DUE.is("address(1, 0)", x.address(1, 0), 0);
    }

    static void promise14WhatComesThenDoesNotChangeTheSnapshot() {
        LentSectors x = Calls.used();
        x.keep();
        x.setLimit(1);
        x.test(0);
        x.setHead(3, false, 6);
        x.giveUp(2);
        x.setHead(1, true, 9);
        x.restore();
        DUE.same("state", Calls.state(x), Calls.state(Calls.used()));
    }

    // "Restores the state of the snapshot, which stays. This is an act." "Returns the steps so far then; NONE if
    // there is no snapshot."

    private static LentSectors withoutSnapshot() {
        LentSectors x = Calls.withNothingFree();
        x.write(5, 50);
        return x;
    }

    static void promise15WithoutASnapshotItIsNone() {
        UNCHANGED.on(LentSectors::new, LentSectors.NONE, "restore()", LentSectors::restore);
        UNCHANGED.on(BoundaryHistoryTest::withoutSnapshot, LentSectors.NONE, "restore()", LentSectors::restore);
    }

    static void promise15StepsOf0AreNotNone() {
        LentSectors x = new LentSectors();
        x.keep();
        x.read(37);
        DUE.is("restore()", x.restore(), 0);
        DUE.is("count(7)", x.count(7), 0);
        DUE.is("count(12)", x.count(12), 2);
    }

    static void promise15TheSnapshotStays() {
        LentSectors x = new LentSectors();
        x.write(1, 10);
        x.keep();
        for (int i = 0; i < 3; i++) {
            x.write(1, 20);
            DUE.is("restore()", x.restore(), 1);
            DUE.is("address(1, 0)", x.address(1, 0), 10);
        }
        x.undo();
        DUE.is("address(1, 0)", x.address(1, 0), 20);
        DUE.is("restore()", x.restore(), 1);
        DUE.is("address(1, 0)", x.address(1, 0), 10);
    }

    static void promise15ItIsAnActThoughItChangesNothing() {
        LentSectors x = new LentSectors();
        x.write(1, 10);
        x.keep();
        DUE.is("restore()", x.restore(), 1);
        DUE.is("count(12)", x.count(12), 2);
        DUE.is("undo()", x.undo(), 1);
        DUE.is("address(1, 0)", x.address(1, 0), 10);
    }

    static void promise15ItDropsTheOldestOfAFullHistory() {
        LentSectors x = new LentSectors();
        x.keep();
        for (int value = 1; value <= 4; value++) {
            x.write(1, value);
        }
        DUE.is("restore()", x.restore(), 0);
        DUE.is("count(12)", x.count(12), 4);
        DUE.is("address(1, 0)", x.address(1, 0), 0);
        for (int left = 3; left >= 0; left--) {
            DUE.is("undo()", x.undo(), left);
            DUE.is("address(1, 0)", x.address(1, 0), left + 1);
        }
    }

    static void promise15TheTextAndTheHistoryAreNotRestored() {
        LentSectors x = new LentSectors();
        x.keep();
        Calls.typeAll(x, "r1");
        x.write(1, 10);
        x.restore();
        DUE.is("count(13)", x.count(13), 2);
        DUE.is("count(12)", x.count(12), 2);
        DUE.is("perform()", x.perform(), 1);
    }

    static void promise15AGivenUpHeadComesBack() {
        LentSectors x = new LentSectors();
        x.keep();
        x.giveUp(0);
        x.giveUp(1);
        DUE.is("restore()", x.restore(), 0);
        DUE.same("state", Calls.state(x), Calls.state(new LentSectors()));
        DUE.is("giveUp(0)", x.giveUp(0), 0);
    }
}
