import static java.lang.Integer.MAX_VALUE;
import static java.lang.Integer.MIN_VALUE;

/** The boundary cases of promises 5 to 7, a test for each sentence: write, copy, test. */
public final class BoundaryWritingTest {
    private static final Due DUE = new Due("BoundaryWritingTest");
    private static final Unchanged UNCHANGED = new Unchanged(DUE);
    /** No address of a new object, nor of one that is used. */
    private static final int[] NO_ADDRESSES = {-1, MIN_VALUE, 64, MAX_VALUE, 12, 28, 63};

    public static void main(String[] args) {
        DUE.runSentences(BoundaryWritingTest.class, 5, 6, 7);
        DUE.end();
    }

    // "address: an address", "value: 0 to 999"; "UNKNOWN; BAD_VALUE; NOT_POSSIBLE ..": the order of the checks.

    static void promise05NoAddressIsUnknown() {
        for (int address : NO_ADDRESSES) {
            UNCHANGED.by(LentSectors.UNKNOWN, "write(" + address + ", 5)", x -> x.write(address, 5));
        }
    }

    static void promise05TheFirstAndTheLastOwnSectorOfEachHeadAreAddresses() {
        for (int address : new int[] {0, 11, 16, 27, 32, 43, 48, 59}) {
            DUE.is("write(" + address + ", 1)", new LentSectors().write(address, 1), address);
        }
        LentSectors x = Calls.withOneSpareEach();
        DUE.is("write(14, 1)", x.write(14, 1), 14);
        DUE.is("write(15, 1)", x.write(15, 1), LentSectors.UNKNOWN);
        DUE.is("write(62, 1)", x.write(62, 1), 62);
        DUE.is("write(63, 1)", x.write(63, 1), LentSectors.UNKNOWN);
    }

    static void promise05AValueBelow0IsBad() {
        UNCHANGED.by(LentSectors.BAD_VALUE, "write(0, -1)", x -> x.write(0, -1));
        UNCHANGED.by(LentSectors.BAD_VALUE, "write(0, MIN)", x -> x.write(0, MIN_VALUE));
    }

    static void promise05AValueAbove999IsBad() {
        UNCHANGED.by(LentSectors.BAD_VALUE, "write(0, 1000)", x -> x.write(0, 1000));
        UNCHANGED.by(LentSectors.BAD_VALUE, "write(0, MAX)", x -> x.write(0, MAX_VALUE));
    }

    static void promise05AValueOf0IsTaken() {
        LentSectors x = new LentSectors();
        x.write(5, 8);
        DUE.is("write(5, 0)", x.write(5, 0), 5);
        DUE.is("read(5)", x.read(5), 0);
    }

    static void promise05AValueOf999IsTaken() {
        LentSectors x = new LentSectors();
        DUE.is("write(5, 999)", x.write(5, 999), 5);
        DUE.is("read(5)", x.read(5), 999);
    }

    static void promise05UnknownComesAheadOfBadValue() {
        for (int address : NO_ADDRESSES) {
            UNCHANGED.by(LentSectors.UNKNOWN, "write(" + address + ", 1000)", x -> x.write(address, 1000));
        }
    }

    static void promise05BadValueComesAheadOfNotPossible() {
        UNCHANGED.on(Calls::with0Lost, LentSectors.BAD_VALUE, "write(0, 1000)", x -> x.write(0, 1000));
        UNCHANGED.on(Calls::with0Lost, LentSectors.BAD_VALUE, "write(0, -1)", x -> x.write(0, -1));
    }

    static void promise05ALostAddressIsNotPossibleIfNothingCanBeLent() {
        UNCHANGED.on(Calls::with0Lost, LentSectors.NOT_POSSIBLE, "write(0, 6)", x -> x.write(0, 6));
    }

    static void promise05TheSameValueIsAWriteToo() {
        LentSectors x = new LentSectors();
        x.write(5, 0);
        DUE.is("sector(5, 0)", x.sector(5, 0), 2);
        DUE.is("count(11)", x.count(11), 1);
        DUE.is("count(12)", x.count(12), 1);
    }

    // "if it is lost, the sector that can be lent to it serves it from now on ..; the arm goes to it; the wear
    // of the sector that serves it grows as by a write; the address has the new value; it is looked at."

    static void promise05ALostAddressGetsWhatCanBeLent() {
        LentSectors x = Calls.with0Lost();
        x.setLimit(5);
        DUE.is("address(0, 3)", x.address(0, 3), 15);
        DUE.is("write(0, 9)", x.write(0, 9), 15);
        DUE.is("address(0, 0)", x.address(0, 0), 9);
        DUE.is("sector(15, 3)", x.sector(15, 3), 0);
        DUE.is("count(2)", x.count(2), 0);
        DUE.is("count(9), lost so far", x.count(9), 1);
        DUE.is("count(8), that is no rescue", x.count(8), 4);
        DUE.is("address(0, 5)", x.address(0, 5), 4);
    }

    static void promise05ALostAddressDoesNotGetItsOwnSectorThoughThatIsGood() {
        LentSectors x = Calls.with0Lost();
        x.setLimit(999);
        DUE.is("sector(0, 1)", x.sector(0, 1), 0);
        DUE.is("write(0, 9)", x.write(0, 9), 15);
    }

    static void promise05ToALostAddressTheArmGoesTheLongWay() {
        LentSectors x = Calls.with0Lost();
        x.setLimit(5);
        int steps = x.count(7);
        DUE.is("count(5)", x.count(5), 15);
        DUE.is("count(6)", x.count(6), 3);
        x.write(0, 9);
        DUE.is("count(7)", x.count(7), steps + 17 + 15);
    }

    static void promise05ToALostAddressOfAGivenUpHeadTheArmGoesStraight() {
        LentSectors x = Calls.withOneSpareEach();
        x.giveUp(3);
        x.setLimit(1);
        x.read(48);
        DUE.is("address(48, 1)", x.address(48, 1), LentSectors.NONE);
        DUE.is("count(7)", x.count(7), 15);
        x.setLimit(99);
        DUE.is("write(60, 8)", x.write(60, 8), 15);
        DUE.is("count(7)", x.count(7), 15);
        DUE.is("address(60, 2)", x.address(60, 2), 1);
    }

    static void promise05ALostAddressIsLookedAtBehindTheWrite() {
        LentSectors x = Calls.with0Lost();
        x.setLimit(9);
        x.setHead(0, true, 9);
        DUE.is("write(0, 7), 15 gets bad, and 31 is free", x.write(0, 7), 31);
        DUE.is("sector(15, 0)", x.sector(15, 0), 4 + 18);
        DUE.is("sector(15, 3)", x.sector(15, 3), LentSectors.NONE);
        DUE.is("sector(31, 0)", x.sector(31, 0), 8 + 4);
        DUE.is("count(8)", x.count(8), 5);
    }

    static void promise05ALostAddressCanBeLostBehindTheWriteAgain() {
        LentSectors x = Calls.with0Lost();
        x.setLimit(5);
        x.setHead(0, true, 9);
        DUE.is("write(0, 7)", x.write(0, 7), 100);
        DUE.is("sector(15, 3)", x.sector(15, 3), LentSectors.NONE);
        DUE.is("count(9)", x.count(9), 2);
        DUE.is("count(11)", x.count(11), 6);
    }

    static void promise05TheWearGrowsByTwiceTheAgeing() {
        LentSectors x = new LentSectors();
        x.setHead(1, true, 9);
        x.write(0, 1);
        x.write(16, 1);
        DUE.is("sector(0, 0)", x.sector(0, 0), 2);
        DUE.is("sector(16, 0)", x.sector(16, 0), 18);
    }

    static void promise05BelowTheLimitThereIsNoRescue() {
        LentSectors x = new LentSectors();
        x.setLimit(3);
        DUE.is("write(0, 1)", x.write(0, 1), 0);
        DUE.is("count(8)", x.count(8), 0);
    }

    static void promise05AtTheLimitTheSectorOfTheRescueIsReturned() {
        LentSectors x = new LentSectors();
        x.setLimit(2);
        DUE.is("write(0, 1)", x.write(0, 1), 12);
        DUE.is("address(0, 0)", x.address(0, 0), 1);
        DUE.is("sector(12, 0)", x.sector(12, 0), 2);
        DUE.is("count(11), a rescue is no write of an address", x.count(11), 1);
    }

    static void promise05AWeakSectorWithNothingToLendIsReturned() {
        LentSectors x = Calls.withNothingFree();
        x.setLimit(2);
        DUE.is("write(0, 1) to wear 2", x.write(0, 1), 0);
        x.read(0);
        DUE.is("sector(0, 0)", x.sector(0, 0), 3);
        DUE.is("address(0, 0)", x.address(0, 0), 1);
    }

    static void promise05TheAnswerIs100IfItIsLostThen() {
        LentSectors x = Calls.withNothingFree();
        x.setLimit(2);
        DUE.is("write(0, 1) to wear 2", x.write(0, 1), 0);
        DUE.is("write(0, 2) to wear 4", x.write(0, 2), 100);
        DUE.is("address(0, 0)", x.address(0, 0), LentSectors.NONE);
        DUE.is("count(12), an act", x.count(12), 4);
        DUE.is("undo()", x.undo(), 3);
        DUE.is("address(0, 0)", x.address(0, 0), 1);
    }

    static void promise05ToAnAddressThatIsLentTheArmGoesTheLongWay() {
        LentSectors x = Calls.usedWithLimit(99);
        int steps = x.count(7);
        DUE.is("write(20, 5)", x.write(20, 5), 28);
        DUE.is("count(7)", x.count(7), steps + 5 + 8);
        DUE.is("sector(28, 0)", x.sector(28, 0), 4 + 4);
        DUE.is("sector(20, 0)", x.sector(20, 0), 4);
    }

    // "many: 1 to 16"; "UNKNOWN (from or to); BAD_VALUE; NONE if none can be copied."

    static void promise06NoAddressToReadIsUnknown() {
        for (int address : NO_ADDRESSES) {
            UNCHANGED.by(LentSectors.UNKNOWN, "copy(" + address + ", 0, 1)", x -> x.copy(address, 0, 1));
        }
    }

    static void promise06NoAddressToWriteIsUnknown() {
        for (int address : NO_ADDRESSES) {
            UNCHANGED.by(LentSectors.UNKNOWN, "copy(0, " + address + ", 1)", x -> x.copy(0, address, 1));
        }
    }

    static void promise06UnknownComesAheadOfBadValue() {
        UNCHANGED.by(LentSectors.UNKNOWN, "copy(12, 0, 0)", x -> x.copy(12, 0, 0));
        UNCHANGED.by(LentSectors.UNKNOWN, "copy(0, 12, 17)", x -> x.copy(0, 12, 17));
        UNCHANGED.by(LentSectors.UNKNOWN, "copy(64, -1, MIN)", x -> x.copy(64, -1, MIN_VALUE));
    }

    static void promise06FewerThan1AreBad() {
        for (int many : new int[] {0, -1, MIN_VALUE}) {
            UNCHANGED.by(LentSectors.BAD_VALUE, "copy(0, 16, " + many + ")", x -> x.copy(0, 16, many));
        }
    }

    static void promise06MoreThan16AreBad() {
        for (int many : new int[] {17, MAX_VALUE}) {
            UNCHANGED.by(LentSectors.BAD_VALUE, "copy(0, 16, " + many + ")", x -> x.copy(0, 16, many));
        }
    }

    static void promise06BadValueComesAheadOfNone() {
        UNCHANGED.on(Calls::with0Lost, LentSectors.BAD_VALUE, "copy(0, 16, 17)", x -> x.copy(0, 16, 17));
        UNCHANGED.on(Calls::with0Lost, LentSectors.BAD_VALUE, "copy(0, 16, 0)", x -> x.copy(0, 16, 0));
    }

    static void promise06OneIsCopiedAlone() {
        LentSectors x = new LentSectors();
        x.write(0, 5);
        x.write(1, 6);
        DUE.is("copy(0, 16, 1)", x.copy(0, 16, 1), 1);
        DUE.is("address(16, 0)", x.address(16, 0), 5);
        DUE.is("address(17, 0)", x.address(17, 0), 0);
        DUE.is("count(10)", x.count(10), 1);
        DUE.is("count(11)", x.count(11), 3);
    }

    static void promise06SixteenAreTakenThoughNoHeadHasSoManyAddresses() {
        LentSectors x = Calls.withOneSpareEach();
        x.setLimit(99);
        for (int address = 0; address < 15; address++) {
            x.write(address, 100 + address);
        }
        DUE.is("copy(0, 16, 16)", x.copy(0, 16, 16), 15);
        for (int address = 0; address < 15; address++) {
            DUE.is("address(" + (16 + address) + ", 0)", x.address(16 + address, 0), 100 + address);
        }
        DUE.is("copy(32, 48, 15)", x.copy(32, 48, 15), 15);
        DUE.is("copy(32, 48, 14)", x.copy(32, 48, 14), 14);
    }

    // "each one is read, and then written to the other address"

    static void promise06EachPairIsReadAndWrittenAheadOfTheNext() {
        LentSectors x = new LentSectors();
        x.write(0, 5);
        DUE.is("copy(0, 1, 3)", x.copy(0, 1, 3), 3);
        for (int address = 0; address < 5; address++) {
            DUE.is("address(" + address + ", 0)", x.address(address, 0), address < 4 ? 5 : 0);
        }
        LentSectors y = new LentSectors();
        y.copy(0, 16, 2);
        DUE.is("count(7), 0 to 16 to 1 to 17", y.count(7), 2 + 3 + 2);
    }

    static void promise06ToTheSameAddressItIsReadAndWritten() {
        LentSectors x = new LentSectors();
        x.write(3, 7);
        DUE.is("copy(3, 3, 1)", x.copy(3, 3, 1), 1);
        DUE.is("sector(3, 0)", x.sector(3, 0), 2 + 1 + 2);
        DUE.is("address(3, 0)", x.address(3, 0), 7);
    }

    static void promise06TheValueIsCopiedThoughTheReadLosesIt() {
        LentSectors x = Calls.withNothingFree();
        x.write(3, 44);
        x.setLimit(1);
        DUE.is("copy(3, 5, 1)", x.copy(3, 5, 1), 1);
        DUE.is("address(3, 0)", x.address(3, 0), LentSectors.NONE);
        DUE.is("address(5, 0), lost too by the write", x.address(5, 0), LentSectors.NONE);
        x.undo();
        x.setLimit(2);
        x.read(3);
        DUE.is("copy(3, 5, 1)", x.copy(3, 5, 1), 1);
        DUE.is("address(3, 0)", x.address(3, 0), LentSectors.NONE);
        DUE.is("address(5, 0)", x.address(5, 0), 44);
    }

    static void promise06APairOfWhichTheWriteLosesIsCopied() {
        LentSectors x = Calls.withNothingFree();
        x.setLimit(1);
        DUE.is("copy(1, 5, 2)", x.copy(1, 5, 2), 2);
        DUE.is("count(2)", x.count(2), 2);
        DUE.is("count(11)", x.count(11), 2);
    }

    static void promise06ALostOneIsWrittenIfOneCanBeLent() {
        LentSectors x = Calls.with17LostAnd15Free();
        x.write(2, 8);
        DUE.is("copy(2, 17, 1)", x.copy(2, 17, 1), 1);
        DUE.is("address(17, 0)", x.address(17, 0), 8);
        DUE.is("address(17, 1)", x.address(17, 1), 15);
    }

    // "it ends ahead of the first pair that is not possible (an address that is lost is to be read, or the
    // write would not be possible behind the read), or of which one is no address; nothing of that pair is done."

    static void promise06ItEndsAheadOfAReadOfALostOne() {
        LentSectors x = Calls.with17LostAnd15Free();
        DUE.is("copy(16, 0, 4)", x.copy(16, 0, 4), 1);
        DUE.is("count(10)", x.count(10), 1);
        DUE.is("count(11)", x.count(11), 6);
        DUE.is("sector(1, 0)", x.sector(1, 0), 0);
    }

    private static LentSectors with17LostAndNothingFree() {
        LentSectors x = Calls.with17LostAnd15Free();
        x.setLimit(4);
        return x;
    }

    static void promise06ItEndsAheadOfAWriteThatIsNotPossible() {
        LentSectors x = with17LostAndNothingFree();
        DUE.is("count(4)", x.count(4), 0);
        LentSectors y = with17LostAndNothingFree();
        DUE.is("copy(1, 16, 3)", x.copy(1, 16, 3), 1);
        DUE.is("copy(1, 16, 1)", y.copy(1, 16, 1), 1);
        DUE.is("sector(2, 0), not read", x.sector(2, 0), 0);
        DUE.same("state, as by the first pair alone", Calls.state(x), Calls.state(y));
    }

    private static LentSectors with1AlmostWeak() {
        LentSectors x = Calls.with17LostAnd15Free();
        x.write(1, 33);
        x.write(1, 33);
        return x;
    }

    static void promise06TheReadMayTakeWhatTheWriteNeeds() {
        DUE.is("address(17, 3)", with1AlmostWeak().address(17, 3), 15);
        UNCHANGED.on(BoundaryWritingTest::with1AlmostWeak, LentSectors.NONE, "copy(1, 17, 1)", x -> x.copy(1, 17, 1));
        LentSectors x = with1AlmostWeak();
        LentSectors y = with1AlmostWeak();
        DUE.is("copy(0, 16, 2)", x.copy(0, 16, 2), 1);
        DUE.is("copy(0, 16, 1)", y.copy(0, 16, 1), 1);
        DUE.same("state, as by the first pair alone", Calls.state(x), Calls.state(y));
    }

    private static LentSectors with3AlmostBad() {
        LentSectors x = Calls.withNothingFree();
        x.setLimit(1);
        x.read(3);
        return x;
    }

    static void promise06WhatTheReadLosesCanNotBeWritten() {
        DUE.is("address(3, 1)", with3AlmostBad().address(3, 1), 3);
        UNCHANGED.on(BoundaryWritingTest::with3AlmostBad, LentSectors.NONE, "copy(3, 3, 1)", x -> x.copy(3, 3, 1));
    }

    static void promise06ItEndsWhereTheFirstIsNoAddress() {
        LentSectors x = new LentSectors();
        DUE.is("copy(10, 16, 16)", x.copy(10, 16, 16), 2);
        DUE.is("count(10)", x.count(10), 2);
        DUE.is("sector(18, 0)", x.sector(18, 0), 0);
    }

    static void promise06ItEndsWhereTheOtherIsNoAddress() {
        LentSectors x = new LentSectors();
        DUE.is("copy(0, 26, 16)", x.copy(0, 26, 16), 2);
        DUE.is("count(10)", x.count(10), 2);
        DUE.is("sector(2, 0), not read", x.sector(2, 0), 0);
        DUE.is("count(5)", x.count(5), 11);
        DUE.is("count(6)", x.count(6), 1);
    }

    static void promise06ItEndsBehindTheLastSector() {
        LentSectors x = Calls.withOneSpareEach();
        DUE.is("copy(62, 0, 16)", x.copy(62, 0, 16), 1);
        DUE.is("copy(0, 62, 16)", x.copy(0, 62, 16), 1);
    }

    static void promise06NoneIsCopiedOfALostOne() {
        UNCHANGED.on(Calls::with0Lost, LentSectors.NONE, "copy(0, 16, 3)", x -> x.copy(0, 16, 3));
    }

    static void promise06NoneIsCopiedIfTheFirstWriteIsNotPossible() {
        UNCHANGED.on(Calls::with0Lost, LentSectors.NONE, "copy(1, 0, 3)", x -> x.copy(1, 0, 3));
    }

    static void promise06ItIsOneAct() {
        LentSectors x = new LentSectors();
        x.write(0, 5);
        DUE.is("copy(0, 16, 12)", x.copy(0, 16, 12), 12);
        DUE.is("count(12)", x.count(12), 2);
        DUE.is("copy(0, 26, 12), that ends early", x.copy(0, 26, 12), 2);
        DUE.is("count(12)", x.count(12), 3);
        x.undo();
        x.undo();
        DUE.is("address(16, 0)", x.address(16, 0), 0);
        DUE.is("count(10)", x.count(10), 0);
    }

    // "head: 0 to 3"; "Returns how many rescues there are by that; UNKNOWN; NONE if all its addresses are lost."

    static void promise07AHeadBelow0IsUnknown() {
        UNCHANGED.by(LentSectors.UNKNOWN, "test(-1)", x -> x.test(-1));
        UNCHANGED.by(LentSectors.UNKNOWN, "test(MIN)", x -> x.test(MIN_VALUE));
    }

    static void promise07AHeadAbove3IsUnknown() {
        UNCHANGED.by(LentSectors.UNKNOWN, "test(4)", x -> x.test(4));
        UNCHANGED.by(LentSectors.UNKNOWN, "test(MAX)", x -> x.test(MAX_VALUE));
    }

    static void promise07Heads0And3AreTested() {
        LentSectors x = new LentSectors();
        DUE.is("test(0)", x.test(0), 0);
        DUE.is("sector(0, 0)", x.sector(0, 0), 1);
        DUE.is("test(3)", x.test(3), 0);
        DUE.is("sector(59, 0)", x.sector(59, 0), 4);
        DUE.is("count(10)", x.count(10), 24);
    }

    private static LentSectors withAllOfHead1Lost() {
        LentSectors x = Calls.withOneSpareEach();
        x.giveUp(0);
        x.giveUp(1);
        return x;
    }

    static void promise07ItIsNoneIfAllAddressesAreLost() {
        DUE.is("head(1, 6)", withAllOfHead1Lost().head(1, 6), 15);
        UNCHANGED.on(BoundaryWritingTest::withAllOfHead1Lost, LentSectors.NONE, "test(1)", x -> x.test(1));
    }

    static void promise07OneAddressThatIsNotLostIsTested() {
        LentSectors x = withAllOfHead1Lost();
        x.giveUp(2);
        DUE.is("head(0, 6)", x.head(0, 6), 14);
        DUE.is("address(2, 1)", x.address(2, 1), 63);
        DUE.is("test(0)", x.test(0), 0);
        DUE.is("count(10)", x.count(10), 1);
        DUE.is("sector(63, 0)", x.sector(63, 0), 8 + 4);
        DUE.is("count(12)", x.count(12), 4);
    }

    static void promise07NoRescuesAreAnActAllTheSame() {
        LentSectors x = new LentSectors();
        DUE.is("test(2)", x.test(2), 0);
        DUE.is("count(12)", x.count(12), 1);
        DUE.is("undo()", x.undo(), 0);
        DUE.is("head(2, 7)", x.head(2, 7), 0);
    }

    static void promise07SpareSectorsAreReadForTheirAddressesAlone() {
        LentSectors x = Calls.usedWithLimit(99);
        DUE.is("test(1)", x.test(1), 0);
        DUE.is("count(10)", x.count(10), 12);
        DUE.is("sector(28, 0), lent to 20", x.sector(28, 0), 4 + 2);
        DUE.is("sector(20, 0)", x.sector(20, 0), 4);
        DUE.is("sector(29, 0)", x.sector(29, 0), 0);
        LentSectors y = Calls.withNothingFree();
        y.test(0);
        DUE.is("sector(12, 0), lent to 48", y.sector(12, 0), 2);
    }

    static void promise07AllPlacesAreReadWith1And6SpareOnes() {
        LentSectors x = new LentSectors();
        x.setHead(0, false, 1);
        x.setHead(1, false, 6);
        x.test(0);
        DUE.is("count(10)", x.count(10), 15);
        x.test(1);
        DUE.is("count(10)", x.count(10), 25);
    }

    static void promise07TheRescuesOfThisTestAreReturned() {
        LentSectors x = new LentSectors();
        x.setLimit(4);
        x.read(48);
        x.read(49);
        DUE.is("count(8)", x.count(8), 2);
        DUE.is("test(2), all below the limit", x.test(2), 0);
        DUE.is("test(2), 12 of the 14 that are free", x.test(2), 12);
        DUE.is("count(8)", x.count(8), 14);
    }

    static void promise07WhatIsLostByTheTestIsNoRescue() {
        LentSectors x = Calls.withNothingFree();
        x.setLimit(1);
        DUE.is("test(0), all weak then", x.test(0), 0);
        DUE.is("head(0, 6)", x.head(0, 6), 0);
        DUE.is("test(0), all bad then", x.test(0), 0);
        DUE.is("head(0, 6)", x.head(0, 6), 12);
        DUE.is("count(9)", x.count(9), 12);
        DUE.is("test(0), all lost", x.test(0), LentSectors.NONE);
    }

    static void promise07AddressesOfAGivenUpHeadAreRead() {
        LentSectors x = Calls.withNothingFree();
        DUE.is("test(3)", x.test(3), 0);
        DUE.is("count(10)", x.count(10), 12);
        DUE.is("sector(12, 0)", x.sector(12, 0), 3);
        DUE.is("sector(48, 0)", x.sector(48, 0), 0);
    }
}
