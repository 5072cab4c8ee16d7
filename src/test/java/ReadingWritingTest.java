/** Promises 4 to 7: read, write, copy, test. */
public final class ReadingWritingTest {
    private static final Due DUE = new Due("ReadingWritingTest");

    public static void main(String[] args) {
        reads();
        readsOfNoAddress();
        readRescues();
        readRescuesByOtherHeads();
        readLoses();
        writes();
        writeOfWrongInputs();
        writeRescuesAndLoses();
        copies();
        copyOfWrongInputs();
        copyOverItself();
        copyEndsAtTheLastAddress();
        copyEndsAheadOfALostOne();
        copyEndsAheadOfAnImpossibleWrite();
        copyOfAnAddressThatIsLostByTheRead();
        copyOfAnAddressToItself();
        tests();
        testRescues();
        testOfLostAddresses();
        DUE.end();
    }

    private static void reads() {
        LentSectors x = new LentSectors();
        DUE.is("4: read(5)", x.read(5), 0);
        DUE.is("4: sector(5, 0)", x.sector(5, 0), 1);
        DUE.is("4: count(7)", x.count(7), 5);
        DUE.is("4: read(20)", x.read(20), 0);
        DUE.is("4: sector(20, 0)", x.sector(20, 0), 2);
        DUE.is("4: count(7)", x.count(7), 8);
        DUE.is("4: read(20)", x.read(20), 0);
        DUE.is("4: sector(20, 0)", x.sector(20, 0), 4);
        DUE.is("4: count(5)", x.count(5), 4);
        DUE.is("4: count(6)", x.count(6), 1);
        DUE.is("4: count(7)", x.count(7), 8);
        DUE.is("4: count(10)", x.count(10), 3);
        DUE.is("4: count(11)", x.count(11), 0);
        DUE.is("4: count(12)", x.count(12), 3);
        x.write(59, 999);
        DUE.is("4: read(59)", x.read(59), 999);
        DUE.is("4: sector(59, 0)", x.sector(59, 0), 12);
    }

    private static void readsOfNoAddress() {
        LentSectors x = new LentSectors();
        for (int address : Calls.NO_ADDRESSES) {
            DUE.is("4: read(" + address + ")", x.read(address), LentSectors.UNKNOWN);
        }
        DUE.is("4: count(12)", x.count(12), 0);
        DUE.is("4: count(10)", x.count(10), 0);
        DUE.is("4: count(7)", x.count(7), 0);
    }

    private static void readRescues() {
        LentSectors x = new LentSectors();
        x.setLimit(4);
        DUE.is("4: read(48)", x.read(48), 0);
        DUE.is("4: address(48, 1)", x.address(48, 1), 60);
        DUE.is("4: count(7), 2 to the address and 12 to the new sector", x.count(7), 14);
        DUE.is("4: sector(48, 0)", x.sector(48, 0), 4);
        DUE.is("4: sector(60, 0)", x.sector(60, 0), 8);
        DUE.is("4: sector(48, 3)", x.sector(48, 3), LentSectors.NONE);
        DUE.is("4: sector(60, 3)", x.sector(60, 3), 48);
        DUE.is("4: sector(60, 1), not looked at again", x.sector(60, 1), 2);
        DUE.is("4: count(8)", x.count(8), 1);
        DUE.is("4: address(48, 5)", x.address(48, 5), 1);
        DUE.is("4: count(10)", x.count(10), 1);
        DUE.is("4: count(11)", x.count(11), 0);
        DUE.is("4: read(48), the long way", x.read(48), 0);
        DUE.is("4: count(7)", x.count(7), 14 + 12 + 12 + 1);
        DUE.is("4: address(48, 1)", x.address(48, 1), 61);
        DUE.is("4: sector(48, 0)", x.sector(48, 0), 4);
        DUE.is("4: sector(60, 0)", x.sector(60, 0), 12);
        DUE.is("4: sector(60, 3)", x.sector(60, 3), LentSectors.NONE);
        DUE.is("4: sector(60, 4)", x.sector(60, 4), 0);
        DUE.is("4: count(8)", x.count(8), 2);
        x.setLimit(13);
        DUE.is("4: sector(60, 4)", x.sector(60, 4), 1);
        DUE.is("4: read(48)", x.read(48), 0);
        DUE.is("4: address(48, 1)", x.address(48, 1), 61);
        DUE.is("4: read(48), by which 61 is weak and 60 good", x.read(48), 0);
        DUE.is("4: address(48, 1)", x.address(48, 1), 60);
    }

    /** Address 0 is rescued until no sector is left, then it is lost. */
    private static LentSectors usedUpByAddress0() {
        LentSectors x = new LentSectors();
        x.setHead(0, false, 2);
        x.setHead(1, false, 3);
        x.setHead(2, false, 3);
        x.setHead(3, false, 1);
        x.setLimit(1);
        int[] serving = {14, 15, 29, 45, 30, 46, 31, 47, 63, LentSectors.NONE};
        for (int sector : serving) {
            DUE.is("4: read(0)", x.read(0), 0);
            DUE.is("4: address(0, 1)", x.address(0, 1), sector);
        }
        return x;
    }

    private static void readRescuesByOtherHeads() {
        LentSectors x = usedUpByAddress0();
        DUE.is("4: address(0, 5)", x.address(0, 5), 9);
        DUE.is("4: count(8)", x.count(8), 9);
        DUE.is("4: count(9)", x.count(9), 1);
        DUE.is("4: count(2)", x.count(2), 1);
        DUE.is("4: count(10)", x.count(10), 10);
        DUE.is("4: sector(63, 3)", x.sector(63, 3), LentSectors.NONE);
        DUE.is("4: sector(63, 0)", x.sector(63, 0), 12);
        DUE.is("4: read(0)", x.read(0), LentSectors.NOT_POSSIBLE);
        DUE.is("4: count(10)", x.count(10), 10);
        DUE.is("4: read(1), weak", x.read(1), 0);
        DUE.is("4: address(1, 1)", x.address(1, 1), 1);
        DUE.is("4: read(1), bad", x.read(1), 0);
        DUE.is("4: address(1, 1)", x.address(1, 1), LentSectors.NONE);
        DUE.is("4: count(9)", x.count(9), 2);
        DUE.is("4: count(8)", x.count(8), 9);
    }

    private static void readLoses() {
        LentSectors x = usedUpByAddress0();
        x.setLimit(3);
        DUE.is("4: count(4)", x.count(4), 0);
        DUE.is("4: write(2, 55)", x.write(2, 55), 2);
        for (int wear = 3; wear <= 6; wear++) {
            DUE.is("4: address(2, 1)", x.address(2, 1), 2);
            DUE.is("4: read(2)", x.read(2), 55);
            DUE.is("4: sector(2, 0)", x.sector(2, 0), wear);
        }
        DUE.is("4: address(2, 1)", x.address(2, 1), LentSectors.NONE);
        DUE.is("4: address(2, 0)", x.address(2, 0), LentSectors.NONE);
        DUE.is("4: sector(2, 3)", x.sector(2, 3), LentSectors.NONE);
        DUE.is("4: read(2)", x.read(2), LentSectors.NOT_POSSIBLE);
        DUE.is("4: undo()", x.undo(), 3);
        DUE.is("4: address(2, 0)", x.address(2, 0), 55);
    }

    private static void writes() {
        LentSectors x = new LentSectors();
        DUE.is("5: write(0, 999)", x.write(0, 999), 0);
        DUE.is("5: address(0, 0)", x.address(0, 0), 999);
        DUE.is("5: write(0, 0)", x.write(0, 0), 0);
        DUE.is("5: address(0, 0)", x.address(0, 0), 0);
        DUE.is("5: sector(0, 0)", x.sector(0, 0), 4);
        DUE.is("5: write(59, 1)", x.write(59, 1), 59);
        DUE.is("5: sector(59, 0)", x.sector(59, 0), 8);
        DUE.is("5: count(7)", x.count(7), 13);
        DUE.is("5: count(11)", x.count(11), 3);
        DUE.is("5: count(10)", x.count(10), 0);
        DUE.is("5: count(12)", x.count(12), 3);
    }

    private static void writeOfWrongInputs() {
        LentSectors x = new LentSectors();
        for (int address : Calls.NO_ADDRESSES) {
            DUE.is("5: write(" + address + ", 1)", x.write(address, 1), LentSectors.UNKNOWN);
            DUE.is("5: write(" + address + ", 1000)", x.write(address, 1000), LentSectors.UNKNOWN);
        }
        for (int value : new int[] {-1, 1000, Integer.MIN_VALUE, Integer.MAX_VALUE}) {
            DUE.is("5: write(0, " + value + ")", x.write(0, value), LentSectors.BAD_VALUE);
        }
        DUE.is("5: count(12)", x.count(12), 0);
        DUE.is("5: count(11)", x.count(11), 0);
        DUE.is("5: sector(0, 0)", x.sector(0, 0), 0);
    }

    private static void writeRescuesAndLoses() {
        LentSectors x = Calls.withOneSpareEach();
        x.setLimit(1);
        int[] answers = {15, 31, 47, 63, 100};
        for (int i = 0; i < answers.length; i++) {
            DUE.is("5: write(0, " + i + ")", x.write(0, i), answers[i]);
            DUE.is("5: address(0, 0)", x.address(0, 0), i < 4 ? i : LentSectors.NONE);
        }
        DUE.is("5: count(8)", x.count(8), 4);
        DUE.is("5: count(9)", x.count(9), 1);
        DUE.is("5: count(11)", x.count(11), 5);
        DUE.is("5: sector(15, 0)", x.sector(15, 0), 4);
        DUE.is("5: sector(31, 0)", x.sector(31, 0), 8);
        DUE.is("5: sector(47, 0)", x.sector(47, 0), 12);
        DUE.is("5: sector(63, 0)", x.sector(63, 0), 16);
        int steps = x.count(7);
        DUE.is("5: write(0, 9)", x.write(0, 9), LentSectors.NOT_POSSIBLE);
        DUE.is("5: write(0, 1000)", x.write(0, 1000), LentSectors.BAD_VALUE);
        DUE.is("5: count(11)", x.count(11), 5);
        DUE.is("5: count(7)", x.count(7), steps);
        x.setLimit(5);
        DUE.is("5: write(0, 9), which gets 15", x.write(0, 9), 15);
        DUE.is("5: count(7), 17 to 0 and 15 to 15", x.count(7), steps + 32);
        DUE.is("5: sector(15, 0)", x.sector(15, 0), 6);
        DUE.is("5: sector(0, 0)", x.sector(0, 0), 2);
        DUE.is("5: address(0, 0)", x.address(0, 0), 9);
        DUE.is("5: count(2)", x.count(2), 0);
        DUE.is("5: count(8), getting is no rescue", x.count(8), 4);
    }

    private static void copies() {
        LentSectors x = new LentSectors();
        x.write(0, 5);
        x.write(1, 6);
        int steps = x.count(7);
        DUE.is("6: count(7)", steps, 1);
        DUE.is("6: copy(0, 16, 2)", x.copy(0, 16, 2), 2);
        DUE.is("6: count(7), 1 and 2 and 3 and 2 more", x.count(7), 9);
        DUE.is("6: address(16, 0)", x.address(16, 0), 5);
        DUE.is("6: address(17, 0)", x.address(17, 0), 6);
        DUE.is("6: sector(0, 0)", x.sector(0, 0), 3);
        DUE.is("6: sector(16, 0)", x.sector(16, 0), 4);
        DUE.is("6: count(10)", x.count(10), 2);
        DUE.is("6: count(11)", x.count(11), 4);
        DUE.is("6: count(12), one act", x.count(12), 3);
        DUE.is("6: undo()", x.undo(), 2);
        DUE.is("6: address(16, 0)", x.address(16, 0), 0);
        DUE.is("6: count(7)", x.count(7), 1);
    }

    private static void copyOfWrongInputs() {
        LentSectors x = new LentSectors();
        for (int address : Calls.NO_ADDRESSES) {
            DUE.is("6: copy(" + address + ", 0, 1)", x.copy(address, 0, 1), LentSectors.UNKNOWN);
            DUE.is("6: copy(0, " + address + ", 1)", x.copy(0, address, 1), LentSectors.UNKNOWN);
            DUE.is("6: copy(0, " + address + ", 0)", x.copy(0, address, 0), LentSectors.UNKNOWN);
        }
        for (int many : new int[] {0, 17, -1, Integer.MIN_VALUE, Integer.MAX_VALUE}) {
            DUE.is("6: copy(0, 16, " + many + ")", x.copy(0, 16, many), LentSectors.BAD_VALUE);
        }
        DUE.is("6: count(12)", x.count(12), 0);
        DUE.is("6: count(10)", x.count(10), 0);
    }

    private static void copyOverItself() {
        LentSectors x = new LentSectors();
        x.write(0, 5);
        DUE.is("6: copy(0, 1, 3)", x.copy(0, 1, 3), 3);
        for (int address = 1; address <= 3; address++) {
            DUE.is("6: address(" + address + ", 0)", x.address(address, 0), 5);
        }
        DUE.is("6: address(4, 0)", x.address(4, 0), 0);
        DUE.is("6: sector(1, 0), written and read", x.sector(1, 0), 3);
        DUE.is("6: sector(3, 0), written", x.sector(3, 0), 2);
    }

    private static void copyEndsAtTheLastAddress() {
        LentSectors x = new LentSectors();
        DUE.is("6: copy(0, 16, 16)", x.copy(0, 16, 16), 12);
        DUE.is("6: count(10)", x.count(10), 12);
        DUE.is("6: copy(1, 27, 2)", x.copy(1, 27, 2), 1);
        DUE.is("6: copy(59, 0, 16)", x.copy(59, 0, 16), 1);
        LentSectors y = Calls.withOneSpareEach();
        DUE.is("6: copy(62, 0, 16)", y.copy(62, 0, 16), 1);
        DUE.is("6: copy(0, 62, 16), the second pair is read in vain", y.copy(0, 62, 16), 1);
        DUE.is("6: sector(1, 0)", y.sector(1, 0), 0);
        DUE.is("6: count(10)", y.count(10), 2);
        DUE.is("6: copy(0, 16, 15)", y.copy(0, 16, 15), 15);
    }

    /** One spare sector each, of which 15 alone is good; 17 is lost; the limit is 5. */
    private static LentSectors withOneFreeAnd17Lost() {
        LentSectors x = Calls.withOneSpareEach();
        x.setLimit(1);
        int[] answers = {31, 15, 47, 63, 100};
        for (int answer : answers) {
            DUE.is("6: write(17, 1)", x.write(17, 1), answer);
        }
        x.setLimit(5);
        DUE.is("6: sector(15, 4)", x.sector(15, 4), 1);
        DUE.is("6: count(4)", x.count(4), 1);
        return x;
    }

    private static void copyEndsAheadOfALostOne() {
        LentSectors x = withOneFreeAnd17Lost();
        DUE.is("6: copy(17, 0, 4)", x.copy(17, 0, 4), LentSectors.NONE);
        DUE.is("6: count(10)", x.count(10), 0);
        x.write(0, 12);
        DUE.is("6: copy(16, 0, 4)", x.copy(16, 0, 4), 1);
        DUE.is("6: address(0, 0)", x.address(0, 0), 0);
        DUE.is("6: address(1, 0)", x.address(1, 0), 0);
        DUE.is("6: count(10)", x.count(10), 1);
        x.write(1, 13);
        DUE.is("6: copy(1, 17, 1), to the lost one", x.copy(1, 17, 1), 1);
        DUE.is("6: address(17, 0)", x.address(17, 0), 13);
        DUE.is("6: address(17, 1)", x.address(17, 1), 15);
    }

    private static LentSectors with1AlmostWeak() {
        LentSectors x = withOneFreeAnd17Lost();
        x.write(0, 32);
        x.write(1, 33);
        x.write(1, 33);
        return x;
    }

    private static void copyEndsAheadOfAnImpossibleWrite() {
        LentSectors x = with1AlmostWeak();
        DUE.is("6: copy(1, 17, 1), the read of which takes what is free", x.copy(1, 17, 1), LentSectors.NONE);
        DUE.is("6: state as before", Calls.state(x).equals(Calls.state(with1AlmostWeak())) ? 1 : 0, 1);

        LentSectors y = with1AlmostWeak();
        DUE.is("6: copy(0, 16, 2)", y.copy(0, 16, 2), 1);
        DUE.is("6: address(16, 0)", y.address(16, 0), 32);
        DUE.is("6: sector(1, 0)", y.sector(1, 0), 4);
        DUE.is("6: address(1, 1)", y.address(1, 1), 1);
        DUE.is("6: sector(15, 4)", y.sector(15, 4), 1);
        DUE.is("6: count(10)", y.count(10), 1);
        DUE.is("6: count(11)", y.count(11), 9);
        DUE.is("6: count(8)", y.count(8), 4);
        DUE.is("6: count(5)", y.count(5), 0);
        DUE.is("6: count(6)", y.count(6), 1);
        DUE.is("6: address(17, 1)", y.address(17, 1), LentSectors.NONE);
    }

    private static void copyOfAnAddressThatIsLostByTheRead() {
        LentSectors x = withOneFreeAnd17Lost();
        x.setLimit(2);
        DUE.is("6: write(3, 44)", x.write(3, 44), 3);
        DUE.is("6: read(3)", x.read(3), 44);
        DUE.is("6: copy(3, 5, 2)", x.copy(3, 5, 2), 2);
        DUE.is("6: address(3, 1)", x.address(3, 1), LentSectors.NONE);
        DUE.is("6: address(5, 0)", x.address(5, 0), 44);
        DUE.is("6: count(9)", x.count(9), 2);
        x.setLimit(1);
        DUE.is("6: copy(7, 8, 1), which loses what it writes", x.copy(7, 8, 1), 1);
        DUE.is("6: address(8, 1)", x.address(8, 1), LentSectors.NONE);
    }

    private static void copyOfAnAddressToItself() {
        LentSectors x = withOneFreeAnd17Lost();
        x.setLimit(1);
        DUE.is("6: read(3)", x.read(3), 0);
        DUE.is("6: copy(3, 3, 1), lost behind the read", x.copy(3, 3, 1), LentSectors.NONE);
        DUE.is("6: sector(3, 0)", x.sector(3, 0), 1);
        DUE.is("6: address(3, 1)", x.address(3, 1), 3);
        DUE.is("6: count(9)", x.count(9), 1);
        x.setLimit(99);
        DUE.is("6: copy(3, 3, 1)", x.copy(3, 3, 1), 1);
        DUE.is("6: sector(3, 0)", x.sector(3, 0), 4);
    }

    private static void tests() {
        LentSectors x = new LentSectors();
        for (int head : Calls.NO_HEADS) {
            DUE.is("7: test(" + head + ")", x.test(head), LentSectors.UNKNOWN);
        }
        DUE.is("7: test(0)", x.test(0), 0);
        DUE.is("7: count(10)", x.count(10), 12);
        DUE.is("7: count(7)", x.count(7), 11);
        DUE.is("7: count(12), one act", x.count(12), 1);
        for (int sector = 0; sector < 16; sector++) {
            DUE.is("7: sector(" + sector + ", 0)", x.sector(sector, 0), sector < 12 ? 1 : 0);
        }
        DUE.is("7: test(3)", x.test(3), 0);
        DUE.is("7: count(7)", x.count(7), 11 + 13 + 11);
        DUE.is("7: sector(59, 0)", x.sector(59, 0), 4);
    }

    private static void testRescues() {
        LentSectors x = new LentSectors();
        x.setLimit(4);
        DUE.is("7: test(3)", x.test(3), 12);
        int[] serving = {60, 61, 62, 63, 12, 28, 44, 13, 29, 45, 14, 30};
        for (int i = 0; i < serving.length; i++) {
            DUE.is("7: address(" + (48 + i) + ", 1)", x.address(48 + i, 1), serving[i]);
        }
        DUE.is("7: test(3), for which 46, 15, 31, 47 are left", x.test(3), 4);
        DUE.is("7: count(8)", x.count(8), 16);
        DUE.is("7: count(9), 54 and 57 on 44 and 45", x.count(9), 2);
    }

    private static void testOfLostAddresses() {
        LentSectors x = Calls.withOneSpareEach();
        DUE.is("7: giveUp(0)", x.giveUp(0), 12);
        DUE.is("7: giveUp(1)", x.giveUp(1), 16);
        DUE.is("7: test(1)", x.test(1), LentSectors.NONE);
        DUE.is("7: count(10)", x.count(10), 0);
        int states = x.count(12);
        DUE.is("7: count(12)", states, 4);
        DUE.is("7: test(0)", x.test(0), 0);
        DUE.is("7: count(10), two are not lost", x.count(10), 2);
        DUE.is("7: sector(47, 0)", x.sector(47, 0), 9);
        DUE.is("7: sector(63, 0)", x.sector(63, 0), 12);
    }
}
