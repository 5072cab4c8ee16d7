/** Promises 16 to 22: address, sector, head, readsLeft, wouldLose, worst, count. */
public final class TellingTest {
    private static final Due DUE = new Due("TellingTest");

    public static void main(String[] args) {
        wrongInputs();
        addresses();
        stepsOfAddresses();
        stepsOfAddressesOfGivenUpHeads();
        lostAddresses();
        sectors();
        heads();
        readsAreLeft();
        readsAreLeftWithNothingToLend();
        readsLeftIsSoByReading();
        wouldLose();
        wouldLoseWithThreeGivenUp();
        worst();
        counts();
        DUE.end();
    }

    private static void wrongInputs() {
        LentSectors x = new LentSectors();
        for (int address : Calls.NO_ADDRESSES) {
            DUE.is("16: address(" + address + ", 0)", x.address(address, 0), LentSectors.UNKNOWN);
            DUE.is("16: address(" + address + ", 6)", x.address(address, 6), LentSectors.UNKNOWN);
            DUE.is("19: readsLeft(" + address + ")", x.readsLeft(address), LentSectors.UNKNOWN);
        }
        for (int sector : new int[] {-1, 64, Integer.MIN_VALUE, Integer.MAX_VALUE}) {
            DUE.is("17: sector(" + sector + ", 0)", x.sector(sector, 0), LentSectors.UNKNOWN);
            DUE.is("17: sector(" + sector + ", 5)", x.sector(sector, 5), LentSectors.UNKNOWN);
        }
        for (int head : Calls.NO_HEADS) {
            DUE.is("18: head(" + head + ", 0)", x.head(head, 0), LentSectors.UNKNOWN);
            DUE.is("18: head(" + head + ", 10)", x.head(head, 10), LentSectors.UNKNOWN);
            DUE.is("20: wouldLose(" + head + ")", x.wouldLose(head), LentSectors.UNKNOWN);
        }
        for (int what : new int[] {-1, Integer.MIN_VALUE, Integer.MAX_VALUE}) {
            DUE.is("16: address(0, " + what + ")", x.address(0, what), LentSectors.BAD_VALUE);
            DUE.is("17: sector(0, " + what + ")", x.sector(0, what), LentSectors.BAD_VALUE);
            DUE.is("18: head(0, " + what + ")", x.head(0, what), LentSectors.BAD_VALUE);
            DUE.is("22: count(" + what + ")", x.count(what), LentSectors.BAD_VALUE);
        }
        DUE.is("16: address(0, 6)", x.address(0, 6), LentSectors.BAD_VALUE);
        DUE.is("17: sector(63, 5)", x.sector(63, 5), LentSectors.BAD_VALUE);
        DUE.is("18: head(3, 10)", x.head(3, 10), LentSectors.BAD_VALUE);
        DUE.is("22: count(14)", x.count(14), LentSectors.BAD_VALUE);
        DUE.is("21: worst(-1)", x.worst(-1), LentSectors.BAD_VALUE);
        DUE.is("21: worst(MIN)", x.worst(Integer.MIN_VALUE), LentSectors.BAD_VALUE);
        DUE.is("21: worst(MAX)", x.worst(Integer.MAX_VALUE), LentSectors.NONE);
    }

    private static void tell(String what, LentSectors x, int address, int[] told) {
        for (int i = 0; i < told.length; i++) {
            DUE.is(what + ": address(" + address + ", " + i + ")", x.address(address, i), told[i]);
        }
    }

    private static void addresses() {
        LentSectors x = new LentSectors();
        x.write(20, 77);
        tell("16, its own sector", x, 20, new int[] {77, 20, 0, 28, 0, 0});
        x.setLimit(6);
        x.read(20);
        tell("16, rescued", x, 20, new int[] {77, 28, 1, 29, 16, 1});
        tell("16, another one", x, 0, new int[] {0, 0, 0, 12, 14, 0});
        x.setLimit(1);
        for (int i = 0; i < 3; i++) {
            x.read(20);
        }
        tell("16, on the last spare one of its head", x, 20, new int[] {77, 31, 1, 12, 22, 4});
        x.read(20);
        tell("16, on another head", x, 20, new int[] {77, 12, 1, 44, 20, 5});
        DUE.is("16: address(0, 3)", x.address(0, 3), 13);
        DUE.is("16: count(7), telling takes no steps", x.count(7), 6 + 8 + 17 + 19 + 21 + 27);
    }

    private static void stepsOfAddresses() {
        LentSectors x = new LentSectors();
        x.read(7);
        int[][] steps = {{7, 0}, {0, 7}, {11, 4}, {23, 2}, {16, 9}, {59, 6}, {55, 2}};
        for (int[] row : steps) {
            DUE.is("16: address(" + row[0] + ", 4)", x.address(row[0], 4), row[1]);
        }
    }

    private static void stepsOfAddressesOfGivenUpHeads() {
        LentSectors x = new LentSectors();
        x.giveUp(1);
        DUE.is("16: address(16, 1)", x.address(16, 1), 12);
        DUE.is("16: address(16, 4), not by way of 16", x.address(16, 4), 12);
        DUE.is("16: address(17, 1)", x.address(17, 1), 44);
        DUE.is("16: address(17, 4)", x.address(17, 4), 14);
        x.read(17);
        DUE.is("16: count(7)", x.count(7), 14);
        DUE.is("16: count(5)", x.count(5), 12);
        DUE.is("16: count(6)", x.count(6), 2);
        tell("16, long way though straight", x, 17, new int[] {0, 44, 1, LentSectors.NONE, 0, 0});
    }

    private static void lostAddresses() {
        LentSectors x = Calls.withOneSpareEach();
        x.write(3, 9);
        x.giveUp(0);
        x.write(20, 8);
        DUE.is("16: address(2, 1)", x.address(2, 1), 63);
        tell("16, lost", x, 3, new int[] {-5, -5, 0, -5, -5, 0});
        x.read(0);
        tell("16, served by another head", x, 0, new int[] {0, 31, 1, -5, 0, 0});
        DUE.is("19: readsLeft(3)", x.readsLeft(3), LentSectors.NOT_POSSIBLE);
        DUE.is("17: sector(3, 3)", x.sector(3, 3), LentSectors.NONE);
        DUE.is("18: head(0, 6)", x.head(0, 6), 12);
        DUE.is("22: count(2)", x.count(2), 12);
    }

    private static void sectors() {
        LentSectors x = new LentSectors();
        x.setLimit(4);
        x.write(49, 5);
        int[][] rows = {
            {49, 8, 2, 0, -5, 0}, {60, 8, 2, 1, 49, 0}, {61, 0, 0, 1, -5, 1}, {48, 0, 0, 0, 48, 0},
            {59, 0, 0, 0, 59, 0}, {12, 0, 0, 1, -5, 1},
        };
        for (int[] row : rows) {
            for (int what = 0; what < 5; what++) {
                DUE.is("17: sector(" + row[0] + ", " + what + ")", x.sector(row[0], what), row[what + 1]);
            }
        }
        x.setLimit(5);
        DUE.is("17: sector(49, 1), below twice the limit", x.sector(49, 1), 1);
        x.setLimit(8);
        DUE.is("17: sector(49, 1), the limit", x.sector(49, 1), 1);
        x.setLimit(9);
        DUE.is("17: sector(49, 1), below the limit", x.sector(49, 1), 0);
        DUE.is("17: sector(60, 4), good but lent", x.sector(60, 4), 0);
        x.giveUp(3);
        DUE.is("17: sector(61, 4), given up", x.sector(61, 4), 0);
        DUE.is("17: sector(61, 2), given up", x.sector(61, 2), 1);
        DUE.is("17: sector(61, 1), given up", x.sector(61, 1), 0);
        DUE.is("17: sector(12, 3)", x.sector(12, 3), 48);
        DUE.is("17: sector(28, 3)", x.sector(28, 3), 49);
    }

    private static void heads() {
        LentSectors x = new LentSectors();
        x.setHead(3, false, 1);
        x.setLimit(4);
        x.read(48);
        x.read(49);
        x.read(50);
        x.write(16, 1);
        x.write(1, 1);
        x.write(1, 1);
        int[][] rows = {
            // 12 serves 49, 13 serves 1; 1 and 12 have wear 4 and 2, 13 has 2
            {1, 4, 2, 0, 1, 0, 0, 8, 1, 0},
            // 28 serves 50, 29 serves 16; all of 16, 28, 29 have wear 4
            {2, 4, 2, 0, 1, 0, 0, 12, 3, 0},
            {3, 4, 4, 0, 0, 0, 0, 0, 0, 0},
            // 63 has wear 8; 48, 49 and 50 have 4
            {4, 1, 0, 0, 0, 2, 0, 20, 3, 1},
        };
        for (int head = 0; head < 4; head++) {
            for (int what = 0; what < 10; what++) {
                DUE.is("18: head(" + head + ", " + what + ")", x.head(head, what), rows[head][what]);
            }
        }
        x.setLimit(2);
        DUE.is("18: head(0, 8)", x.head(0, 8), 2);
        DUE.is("18: head(0, 9)", x.head(0, 9), 1);
        x.setLimit(99);
        DUE.is("18: head(0, 2)", x.head(0, 2), 2);
        DUE.is("18: giveUp(1)", x.giveUp(1), 13 - 6);
        int[] givenUp = {2, 4, 0, 1, 0, 6, 6, 12, 0, 0};
        for (int what = 0; what < 10; what++) {
            DUE.is("18: head(1, " + what + "), given up", x.head(1, what), givenUp[what]);
        }
        DUE.is("18: head(0, 4)", x.head(0, 4), 3);
        DUE.is("18: head(2, 4)", x.head(2, 4), 4);
        DUE.is("18: head(3, 5)", x.head(3, 5), 1);
        DUE.is("18: head(3, 6)", x.head(3, 6), 1);
    }

    private static void readsAreLeft() {
        LentSectors x = new LentSectors();
        int[][] rows = {{0, 30}, {11, 30}, {16, 15}, {32, 10}, {48, 8}};
        for (int[] row : rows) {
            DUE.is("19: readsLeft(" + row[0] + ")", x.readsLeft(row[0]), row[1]);
        }
        x.read(0);
        DUE.is("19: readsLeft(0)", x.readsLeft(0), 29);
        x.write(48, 1);
        DUE.is("19: readsLeft(48)", x.readsLeft(48), 6);
        x.setLimit(8);
        DUE.is("19: readsLeft(48), weak already", x.readsLeft(48), 1);
        x.setLimit(1);
        DUE.is("19: readsLeft(48), bad already", x.readsLeft(48), 1);
        x.setLimit(999);
        DUE.is("19: readsLeft(1)", x.readsLeft(1), 999);
        DUE.is("19: readsLeft(48)", x.readsLeft(48), 248);
        x.setHead(1, true, 9);
        DUE.is("19: readsLeft(16)", x.readsLeft(16), 111);
    }

    private static void readsAreLeftWithNothingToLend() {
        LentSectors x = new LentSectors();
        x.setLimit(999);
        x.giveUp(3);
        DUE.is("19: count(4)", x.count(4), 0);
        DUE.is("19: readsLeft(0)", x.readsLeft(0), 1998);
        DUE.is("19: readsLeft(16)", x.readsLeft(16), 999);
        DUE.is("19: readsLeft(48), on 12 with wear 2", x.readsLeft(48), 1996);
        DUE.is("19: readsLeft(49), on 28 with wear 4", x.readsLeft(49), 997);
        x.setLimit(1);
        DUE.is("19: readsLeft(0)", x.readsLeft(0), 2);
        DUE.is("19: readsLeft(48)", x.readsLeft(48), 1);
    }

    private static void readsLeftIsSoByReading() {
        LentSectors x = new LentSectors();
        x.setLimit(9);
        x.read(33);
        int left = x.readsLeft(33);
        DUE.is("19: readsLeft(33)", left, 2);
        DUE.is("19: count(10), no read", x.count(10), 1);
        DUE.is("19: sector(33, 0)", x.sector(33, 0), 3);
        for (int i = 1; i < left; i++) {
            x.read(33);
        }
        DUE.is("19: address(33, 1)", x.address(33, 1), 33);
        DUE.is("19: readsLeft(33)", x.readsLeft(33), 1);
        x.read(33);
        DUE.is("19: address(33, 1)", x.address(33, 1), 44);
        DUE.is("19: readsLeft(33), on 44 with wear 6", x.readsLeft(33), 1);
    }

    private static void wouldLose() {
        LentSectors x = new LentSectors();
        x.setHead(0, false, 1);
        x.setHead(2, false, 6);
        int[] lost = {15 - 14, 12 - 11, 10 - 9, 12 - 11};
        for (int head = 0; head < 4; head++) {
            DUE.is("20: wouldLose(" + head + ")", x.wouldLose(head), lost[head]);
            DUE.is("20: head(" + head + ", 3)", x.head(head, 3), 0);
        }
        DUE.is("20: count(9)", x.count(9), 0);
        DUE.is("20: count(12)", x.count(12), 2);
        DUE.is("20: sector(12, 0)", x.sector(12, 0), 0);
        DUE.is("20: giveUp(1)", x.giveUp(1), 1);
        DUE.is("20: wouldLose(1)", x.wouldLose(1), LentSectors.NONE);
        DUE.is("20: wouldLose(0), its own 15 and one on 15", x.wouldLose(0), 16);
        DUE.is("20: giveUp(0)", x.giveUp(0), 16);
        LentSectors y = new LentSectors();
        DUE.is("20: wouldLose(0)", y.wouldLose(0), 0);
    }

    private static void wouldLoseWithThreeGivenUp() {
        LentSectors x = new LentSectors();
        x.giveUp(0);
        x.giveUp(1);
        x.giveUp(3);
        DUE.is("20: giveUp(2)", x.giveUp(2), LentSectors.NOT_POSSIBLE);
        DUE.is("20: wouldLose(2), own ones and four lent", x.wouldLose(2), 16);
        DUE.is("20: wouldLose(3)", x.wouldLose(3), LentSectors.NONE);
        DUE.is("20: head(2, 3)", x.head(2, 3), 0);
    }

    private static void worst() {
        LentSectors x = new LentSectors();
        for (int rank = 0; rank < 48; rank++) {
            DUE.is("21: worst(" + rank + ")", x.worst(rank), rank / 12 * 16 + rank % 12);
        }
        DUE.is("21: worst(48)", x.worst(48), LentSectors.NONE);
        x.read(16);
        x.write(5, 1);
        x.write(59, 1);
        int[] order = {59, 5, 16, 0, 1, 2, 3, 4, 6};
        for (int rank = 0; rank < order.length; rank++) {
            DUE.is("21: worst(" + rank + ")", x.worst(rank), order[rank]);
        }
        x.setLimit(3);
        x.read(5);
        DUE.is("21: address(5, 1)", x.address(5, 1), 12);
        DUE.is("21: worst(1), 5 on 12 with wear 2", x.worst(1), 5);
        x.giveUp(0);
        DUE.is("21: address(0, 1)", x.address(0, 1), 28);
        DUE.is("21: count(2)", x.count(2), 0);
        LentSectors y = Calls.withOneSpareEach();
        y.giveUp(0);
        int[] left = {2, 1, 0, 16, 17};
        for (int rank = 0; rank < left.length; rank++) {
            DUE.is("21: worst(" + rank + ")", y.worst(rank), left[rank]);
        }
        DUE.is("21: worst(47)", y.worst(47), 62);
        DUE.is("21: worst(48), lost ones are left out", y.worst(48), LentSectors.NONE);
    }

    private static void counts() {
        LentSectors x = new LentSectors();
        x.setHead(3, false, 1);
        x.setHead(0, false, 6);
        x.setLimit(4);
        x.write(49, 7);
        x.read(49);
        x.write(3, 1);
        Calls.typeAll(x, "r1;");
        int[] counts = {4, 10 + 12 + 12 + 15, 0, 1, 13, 3, 0, 0, 2, 0, 1, 2, 4, 3};
        counts[7] = 1 + 2 + 14 + 14 + 14 + 5 + 2 + 7;
        for (int what = 0; what < counts.length; what++) {
            DUE.is("22: count(" + what + ")", x.count(what), counts[what]);
        }
        LentSectors y = Calls.withOneSpareEach();
        y.setLimit(1);
        y.read(0);
        y.read(62);
        DUE.is("22: count(3), the first and the last address", y.count(3), 2);
        DUE.is("22: giveUp(2)", x.giveUp(2), 3);
        int[] then = {4, 49, 3, 10, 0, 3, 0, counts[7], 2, 3, 1, 2, 4, 3};
        for (int what = 0; what < then.length; what++) {
            DUE.is("22: count(" + what + "), head 2 given up", x.count(what), then[what]);
        }
    }
}
