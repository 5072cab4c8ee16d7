/** Promises 9 and 10: giveBack, giveUp. */
public final class GivingTest {
    private static final Due DUE = new Due("GivingTest");

    public static void main(String[] args) {
        givesBack();
        givesBackNothing();
        givesBackToNoGivenUpHead();
        givesUp();
        givesUpOneHeadAfterTheOther();
        givesUpAllButEachHead();
        givesUpWhatIsLentToOthers();
        givesUpWithTheOwnHeadFirst();
        DUE.end();
    }

    private static void givesBack() {
        LentSectors x = new LentSectors();
        x.setLimit(4);
        DUE.is("9: write(20, 7)", x.write(20, 7), 28);
        DUE.is("9: count(7)", x.count(7), 14);
        DUE.is("9: giveBack(20), own one weak", x.giveBack(20), LentSectors.NOT_POSSIBLE);
        x.setLimit(2);
        DUE.is("9: giveBack(20), own one bad", x.giveBack(20), LentSectors.NOT_POSSIBLE);
        x.setLimit(5);
        DUE.is("9: count(12)", x.count(12), 4);
        x.undo();
        x.undo();
        DUE.is("9: giveBack(20), with limit 4", x.giveBack(20), LentSectors.NOT_POSSIBLE);
        DUE.is("9: count(12)", x.count(12), 2);
        x.setLimit(5);
        DUE.is("9: giveBack(20)", x.giveBack(20), 28);
        DUE.is("9: count(7), 8 to 20, 8 to 28, 8 back", x.count(7), 14 + 24);
        DUE.is("9: count(5)", x.count(5), 4);
        DUE.is("9: sector(20, 0)", x.sector(20, 0), 8);
        DUE.is("9: address(20, 1), not looked at", x.address(20, 1), 20);
        DUE.is("9: address(20, 0)", x.address(20, 0), 7);
        DUE.is("9: sector(20, 3)", x.sector(20, 3), 20);
        DUE.is("9: sector(28, 0)", x.sector(28, 0), 4);
        DUE.is("9: sector(28, 3)", x.sector(28, 3), LentSectors.NONE);
        DUE.is("9: sector(28, 4)", x.sector(28, 4), 1);
        DUE.is("9: count(8)", x.count(8), 1);
        DUE.is("9: count(11)", x.count(11), 1);
        DUE.is("9: count(12)", x.count(12), 4);
        DUE.is("9: giveBack(20)", x.giveBack(20), LentSectors.NONE);
        DUE.is("9: count(12)", x.count(12), 4);
        DUE.is("9: undo()", x.undo(), 3);
        DUE.is("9: address(20, 1)", x.address(20, 1), 28);
    }

    private static void givesBackNothing() {
        LentSectors x = Calls.withOneSpareEach();
        for (int address : new int[] {-1, 15, 31, 63, 64, Integer.MIN_VALUE, Integer.MAX_VALUE}) {
            DUE.is("9: giveBack(" + address + ")", x.giveBack(address), LentSectors.UNKNOWN);
        }
        DUE.is("9: giveBack(0)", x.giveBack(0), LentSectors.NONE);
        x.setLimit(1);
        for (int i = 0; i < 5; i++) {
            x.write(0, 1);
        }
        DUE.is("9: address(0, 1)", x.address(0, 1), LentSectors.NONE);
        x.setLimit(999);
        DUE.is("9: giveBack(0), lost", x.giveBack(0), LentSectors.NONE);
    }

    private static void givesBackToNoGivenUpHead() {
        LentSectors x = new LentSectors();
        x.write(16, 3);
        x.giveUp(1);
        int serving = x.address(16, 1);
        DUE.is("9: address(16, 1)", serving, 12);
        DUE.is("9: giveBack(16)", x.giveBack(16), LentSectors.NOT_POSSIBLE);
        x.setLimit(1);
        DUE.is("9: giveBack(16), own one bad too", x.giveBack(16), LentSectors.NOT_POSSIBLE);
        DUE.is("9: address(16, 1)", x.address(16, 1), 12);
    }

    private static void givesUp() {
        LentSectors x = new LentSectors();
        for (int head : Calls.NO_HEADS) {
            DUE.is("10: giveUp(" + head + ")", x.giveUp(head), LentSectors.UNKNOWN);
        }
        x.write(32, 6);
        int steps = x.count(7);
        DUE.is("10: giveUp(2)", x.giveUp(2), 0);
        int[] serving = {12, 28, 60, 13, 29, 61, 14, 30, 62, 15, 31, 63};
        for (int i = 0; i < serving.length; i++) {
            DUE.is("10: address(" + (32 + i) + ", 1)", x.address(32 + i, 1), serving[i]);
            DUE.is("10: sector(" + (32 + i) + ", 3)", x.sector(32 + i, 3), LentSectors.NONE);
        }
        DUE.is("10: address(32, 0)", x.address(32, 0), 6);
        DUE.is("10: sector(12, 0)", x.sector(12, 0), 2);
        DUE.is("10: sector(28, 0)", x.sector(28, 0), 4);
        DUE.is("10: sector(60, 0)", x.sector(60, 0), 8);
        DUE.is("10: count(7), no steps", x.count(7), steps);
        DUE.is("10: count(6), the arm stays", x.count(6), 2);
        DUE.is("10: count(8), no rescue", x.count(8), 0);
        DUE.is("10: address(32, 5)", x.address(32, 5), 0);
        DUE.is("10: count(9)", x.count(9), 0);
        DUE.is("10: count(11)", x.count(11), 1);
        DUE.is("10: head(2, 3)", x.head(2, 3), 1);
        DUE.is("10: head(2, 2)", x.head(2, 2), 0);
        DUE.is("10: sector(44, 4)", x.sector(44, 4), 0);
        DUE.is("10: count(4)", x.count(4), 0);
        DUE.is("10: count(12)", x.count(12), 2);
        DUE.is("10: giveUp(2)", x.giveUp(2), LentSectors.NONE);
        DUE.is("10: count(12)", x.count(12), 2);
    }

    private static void givesUpOneHeadAfterTheOther() {
        LentSectors x = new LentSectors();
        DUE.is("10: giveUp(2)", x.giveUp(2), 0);
        DUE.is("10: giveUp(0)", x.giveUp(0), 16);
        DUE.is("10: count(9)", x.count(9), 16);
        DUE.is("10: count(2)", x.count(2), 16);
        DUE.is("10: address(32, 1)", x.address(32, 1), LentSectors.NONE);
        DUE.is("10: address(33, 1)", x.address(33, 1), 28);
        DUE.is("10: giveUp(3)", x.giveUp(3), 16);
        DUE.is("10: giveUp(1)", x.giveUp(1), LentSectors.NOT_POSSIBLE);
        DUE.is("10: giveUp(0)", x.giveUp(0), LentSectors.NONE);
        DUE.is("10: giveUp(3)", x.giveUp(3), LentSectors.NONE);
        DUE.is("10: head(1, 3)", x.head(1, 3), 0);
        DUE.is("10: count(12)", x.count(12), 3);
        DUE.is("10: undo()", x.undo(), 2);
        DUE.is("10: head(3, 3)", x.head(3, 3), 0);
        DUE.is("10: giveUp(1)", x.giveUp(1), 16);
    }

    private static void givesUpAllButEachHead() {
        for (int last = 0; last < 4; last++) {
            LentSectors x = new LentSectors();
            for (int head = 3; head >= 0; head--) {
                if (head != last) {
                    DUE.is("10: giveUp(" + head + ") >= 0, all but " + last, x.giveUp(head) >= 0 ? 1 : 0, 1);
                }
            }
            DUE.is("10: giveUp(" + last + "), the last one", x.giveUp(last), LentSectors.NOT_POSSIBLE);
            DUE.is("10: count(12)", x.count(12), 3);
        }
    }

    private static void givesUpWhatIsLentToOthers() {
        LentSectors x = new LentSectors();
        x.setHead(3, false, 1);
        x.setLimit(4);
        x.read(48);
        x.read(49);
        DUE.is("10: address(48, 1)", x.address(48, 1), 63);
        DUE.is("10: address(49, 1)", x.address(49, 1), 12);
        DUE.is("10: giveUp(0)", x.giveUp(0), 5);
        int[] serving = {28, 44, 29, 45, 30, 46, 31, 47, -5, -5, -5, -5};
        for (int address = 0; address < serving.length; address++) {
            DUE.is("10: address(" + address + ", 1)", x.address(address, 1), serving[address]);
        }
        DUE.is("10: address(49, 1)", x.address(49, 1), LentSectors.NONE);
        DUE.is("10: sector(12, 3)", x.sector(12, 3), LentSectors.NONE);
        DUE.is("10: address(48, 1)", x.address(48, 1), 63);
        DUE.is("10: count(9)", x.count(9), 5);
    }

    private static void givesUpWithTheOwnHeadFirst() {
        LentSectors x = new LentSectors();
        x.setLimit(1);
        int[] serving = {12, 13, 14, 15, 28, 44, 60};
        for (int sector : serving) {
            x.read(0);
            DUE.is("10: address(0, 1)", x.address(0, 1), sector);
        }
        x.setLimit(99);
        DUE.is("10: giveUp(3)", x.giveUp(3), 1);
        DUE.is("10: address(0, 1)", x.address(0, 1), 12);
        DUE.is("10: address(48, 1)", x.address(48, 1), 28);
        DUE.is("10: address(49, 1)", x.address(49, 1), 44);
        DUE.is("10: address(50, 1)", x.address(50, 1), 13);
        DUE.is("10: address(59, 1)", x.address(59, 1), LentSectors.NONE);
    }
}
