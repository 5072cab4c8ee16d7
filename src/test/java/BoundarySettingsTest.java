import static java.lang.Integer.MAX_VALUE;
import static java.lang.Integer.MIN_VALUE;

/** The boundary cases of promises 1 to 3, a test for each sentence: a new object, setLimit, setHead. */
public final class BoundarySettingsTest {
    private static final Due DUE = new Due("BoundarySettingsTest");
    private static final Unchanged UNCHANGED = new Unchanged(DUE);

    public static void main(String[] args) {
        DUE.runSentences(BoundarySettingsTest.class, 1, 2, 3);
        DUE.end();
    }

    // "Creates heads without wear", and what the terms say of "at first".

    static void promise01NoSectorHasWear() {
        LentSectors x = new LentSectors();
        for (int sector = 0; sector < 64; sector++) {
            DUE.is("sector(" + sector + ", 0)", x.sector(sector, 0), 0);
            DUE.is("sector(" + sector + ", 1)", x.sector(sector, 1), 0);
        }
    }

    static void promise01TheLimitIs30() {
        LentSectors x = new LentSectors();
        DUE.is("count(0)", x.count(0), 30);
        DUE.is("readsLeft(0)", x.readsLeft(0), 30);
        DUE.is("setLimit(29)", x.setLimit(29), 30);
    }

    static void promise01TheAgeingIsTheNumberPlus1() {
        LentSectors x = new LentSectors();
        for (int head = 0; head < 4; head++) {
            DUE.is("head(" + head + ", 0)", x.head(head, 0), head + 1);
            x.read(16 * head);
            DUE.is("sector(" + 16 * head + ", 0)", x.sector(16 * head, 0), head + 1);
        }
    }

    static void promise01TheLastFourPlacesAreSpare() {
        LentSectors x = new LentSectors();
        for (int sector = 0; sector < 64; sector++) {
            DUE.is("sector(" + sector + ", 2)", x.sector(sector, 2), sector % 16 < 12 ? 0 : 1);
            DUE.is("sector(" + sector + ", 4)", x.sector(sector, 4), sector % 16 < 12 ? 0 : 1);
        }
        for (int head = 0; head < 4; head++) {
            DUE.is("head(" + head + ", 1)", x.head(head, 1), 4);
        }
    }

    static void promise01EachAddressIsServedByItsOwnSectorAndIs0() {
        LentSectors x = new LentSectors();
        for (int sector = 0; sector < 64; sector++) {
            boolean own = sector % 16 < 12;
            DUE.is("address(" + sector + ", 0)", x.address(sector, 0), own ? 0 : LentSectors.UNKNOWN);
            DUE.is("address(" + sector + ", 1)", x.address(sector, 1), own ? sector : LentSectors.UNKNOWN);
            DUE.is("address(" + sector + ", 5)", x.address(sector, 5), own ? 0 : LentSectors.UNKNOWN);
            DUE.is("sector(" + sector + ", 3)", x.sector(sector, 3), own ? sector : LentSectors.NONE);
        }
    }

    static void promise01TheArmStandsAtPlace0OfHead0() {
        LentSectors x = new LentSectors();
        DUE.is("count(5)", x.count(5), 0);
        DUE.is("count(6)", x.count(6), 0);
        DUE.is("address(0, 4)", x.address(0, 4), 0);
        DUE.is("address(1, 4)", x.address(1, 4), 1);
        DUE.is("address(16, 4)", x.address(16, 4), 2);
    }

    static void promise01NoHeadIsGivenUp() {
        LentSectors x = new LentSectors();
        for (int head = 0; head < 4; head++) {
            DUE.is("head(" + head + ", 3)", x.head(head, 3), 0);
            DUE.is("wouldLose(" + head + ")", x.wouldLose(head), 0);
        }
    }

    static void promise01NothingIsCountedYet() {
        LentSectors x = new LentSectors();
        for (int what : new int[] {2, 3, 7, 8, 9, 10, 11}) {
            DUE.is("count(" + what + ")", x.count(what), 0);
        }
        DUE.is("keep()", x.keep(), 0);
    }

    static void promise01TheTextIsEmpty() {
        LentSectors x = new LentSectors();
        DUE.is("count(13)", x.count(13), 0);
        DUE.is("perform()", x.perform(), -100);
        DUE.is("clearText()", x.clearText(), 0);
        DUE.is("type('r')", x.type('r'), 1);
    }

    static void promise01TheHistoryIsEmpty() {
        LentSectors x = new LentSectors();
        DUE.is("count(12)", x.count(12), 0);
        DUE.is("undo()", x.undo(), LentSectors.NONE);
    }

    static void promise01TheSnapshotIsEmpty() {
        LentSectors x = new LentSectors();
        DUE.is("restore()", x.restore(), LentSectors.NONE);
    }

    static void promise01TwoObjectsShareNothing() {
        LentSectors x = new LentSectors();
        LentSectors y = new LentSectors();
        x.setLimit(4);
        x.write(20, 77);
        x.type('r');
        x.keep();
        x.giveUp(3);
        DUE.same("state", Calls.state(y), Calls.state(new LentSectors()));
        DUE.is("count(12)", y.count(12), 0);
        DUE.is("restore()", y.restore(), LentSectors.NONE);
    }

    /** "An object is used for at most 512 calls after it has been made." */
    static void promise01The512thCallIsAnsweredAsTheFirst() {
        LentSectors x = new LentSectors();
        x.setLimit(999);
        for (int call = 2; call < 512; call++) {
            DUE.is("write(" + call % 12 + ", " + call + ")", x.write(call % 12, call), call % 12);
        }
        DUE.is("read(7)", x.read(7), 511);
    }

    // "limit: 1 to 999"; "Returns the previous one; BAD_VALUE; NONE if it is so already."

    static void promise02ALimitBelow1IsBad() {
        for (int limit : new int[] {0, -1, -30, MIN_VALUE}) {
            UNCHANGED.by(LentSectors.BAD_VALUE, "setLimit(" + limit + ")", x -> x.setLimit(limit));
        }
    }

    static void promise02ALimitAbove999IsBad() {
        for (int limit : new int[] {1000, 1001, MAX_VALUE}) {
            UNCHANGED.by(LentSectors.BAD_VALUE, "setLimit(" + limit + ")", x -> x.setLimit(limit));
        }
    }

    static void promise02ALimitOf1IsTaken() {
        LentSectors x = new LentSectors();
        DUE.is("setLimit(1)", x.setLimit(1), 30);
        DUE.is("count(0)", x.count(0), 1);
    }

    static void promise02ALimitOf999IsTaken() {
        LentSectors x = new LentSectors();
        DUE.is("setLimit(999)", x.setLimit(999), 30);
        DUE.is("count(0)", x.count(0), 999);
        DUE.is("readsLeft(0)", x.readsLeft(0), 999);
    }

    static void promise02TheLimitThatIsSoAlreadyIsNone() {
        UNCHANGED.on(LentSectors::new, LentSectors.NONE, "setLimit(30)", x -> x.setLimit(30));
        UNCHANGED.on(Calls::used, LentSectors.NONE, "setLimit(4)", x -> x.setLimit(4));
        UNCHANGED.on(Calls::with0Lost, LentSectors.NONE, "setLimit(1)", x -> x.setLimit(1));
    }

    static void promise02ThePreviousOneIsReturned() {
        LentSectors x = new LentSectors();
        DUE.is("setLimit(999)", x.setLimit(999), 30);
        DUE.is("setLimit(1)", x.setLimit(1), 999);
        DUE.is("setLimit(30)", x.setLimit(30), 1);
        DUE.is("setLimit(31)", x.setLimit(31), 30);
    }

    static void promise02ItIsAnAct() {
        LentSectors x = new LentSectors();
        x.setLimit(7);
        DUE.is("count(12)", x.count(12), 1);
        DUE.is("undo()", x.undo(), 0);
        DUE.is("count(0)", x.count(0), 30);
    }

    // "It is good while its wear is below the limit, weak while it is below twice the limit, and bad
    // otherwise. (The limit counts as it is.)"

    private static LentSectors with48Worn4() {
        LentSectors x = new LentSectors();
        x.read(48);
        return x;
    }

    static void promise02WearBelowTheLimitIsGood() {
        LentSectors x = with48Worn4();
        x.setLimit(5);
        DUE.is("sector(48, 1)", x.sector(48, 1), 0);
    }

    static void promise02WearOfTheLimitIsWeak() {
        LentSectors x = with48Worn4();
        x.setLimit(4);
        DUE.is("sector(48, 1)", x.sector(48, 1), 1);
    }

    static void promise02WearBelowTwiceTheLimitIsWeak() {
        LentSectors x = with48Worn4();
        x.write(0, 1);
        x.read(0);
        x.setLimit(2);
        DUE.is("sector(0, 0)", x.sector(0, 0), 3);
        DUE.is("sector(0, 1)", x.sector(0, 1), 1);
        x.setLimit(3);
        DUE.is("sector(48, 1)", x.sector(48, 1), 1);
    }

    static void promise02WearOfTwiceTheLimitIsBad() {
        LentSectors x = with48Worn4();
        x.setLimit(2);
        DUE.is("sector(48, 1)", x.sector(48, 1), 2);
    }

    static void promise02WearAboveTwiceTheLimitIsBad() {
        LentSectors x = with48Worn4();
        x.setLimit(1);
        DUE.is("sector(48, 1)", x.sector(48, 1), 2);
        DUE.is("sector(49, 1)", x.sector(49, 1), 0);
    }

    static void promise02ASectorGetsGoodAgainByAHigherLimit() {
        LentSectors x = with48Worn4();
        x.setLimit(1);
        DUE.is("sector(48, 1)", x.sector(48, 1), 2);
        x.setLimit(999);
        DUE.is("sector(48, 1)", x.sector(48, 1), 0);
    }

    static void promise02NothingIsLookedAtByALowerLimit() {
        LentSectors x = Calls.withNothingFree();
        x.read(0);
        x.read(0);
        x.setLimit(1);
        DUE.is("sector(0, 1)", x.sector(0, 1), 2);
        DUE.is("address(0, 1)", x.address(0, 1), 0);
        DUE.is("sector(12, 1)", x.sector(12, 1), 2);
        DUE.is("address(48, 1)", x.address(48, 1), 12);
        DUE.is("count(2)", x.count(2), 0);
        DUE.is("count(8)", x.count(8), 0);
    }

    // "head: 0 to 3"; "UNKNOWN; BAD_VALUE; NOT_POSSIBLE ..; NONE": the order of the checks.

    static void promise03AHeadBelow0IsUnknown() {
        for (int head : new int[] {-1, MIN_VALUE}) {
            UNCHANGED.by(LentSectors.UNKNOWN, "setHead(" + head + ", true, 5)", x -> x.setHead(head, true, 5));
            UNCHANGED.by(LentSectors.UNKNOWN, "setHead(" + head + ", false, 5)", x -> x.setHead(head, false, 5));
        }
    }

    static void promise03AHeadAbove3IsUnknown() {
        for (int head : new int[] {4, MAX_VALUE}) {
            UNCHANGED.by(LentSectors.UNKNOWN, "setHead(" + head + ", true, 5)", x -> x.setHead(head, true, 5));
            UNCHANGED.by(LentSectors.UNKNOWN, "setHead(" + head + ", false, 5)", x -> x.setHead(head, false, 5));
        }
    }

    static void promise03Heads0And3AreKnown() {
        LentSectors x = new LentSectors();
        DUE.is("setHead(0, true, 2)", x.setHead(0, true, 2), 1);
        DUE.is("setHead(3, true, 2)", x.setHead(3, true, 2), 4);
        DUE.is("setHead(0, false, 2)", x.setHead(0, false, 2), 4);
        DUE.is("setHead(3, false, 2)", x.setHead(3, false, 2), 4);
    }

    static void promise03UnknownComesAheadOfBadValue() {
        UNCHANGED.by(LentSectors.UNKNOWN, "setHead(4, true, 0)", x -> x.setHead(4, true, 0));
        UNCHANGED.by(LentSectors.UNKNOWN, "setHead(-1, false, 7)", x -> x.setHead(-1, false, 7));
    }

    static void promise03AnAgeingBelow1IsBad() {
        for (int value : new int[] {0, -1, MIN_VALUE}) {
            UNCHANGED.by(LentSectors.BAD_VALUE, "setHead(1, true, " + value + ")", x -> x.setHead(1, true, value));
        }
    }

    static void promise03AnAgeingAbove9IsBad() {
        for (int value : new int[] {10, MAX_VALUE}) {
            UNCHANGED.by(LentSectors.BAD_VALUE, "setHead(1, true, " + value + ")", x -> x.setHead(1, true, value));
        }
    }

    static void promise03AnAgeingOf1IsTaken() {
        LentSectors x = new LentSectors();
        DUE.is("setHead(3, true, 1)", x.setHead(3, true, 1), 4);
        x.read(48);
        DUE.is("sector(48, 0)", x.sector(48, 0), 1);
    }

    static void promise03AnAgeingOf9IsTaken() {
        LentSectors x = new LentSectors();
        DUE.is("setHead(0, true, 9)", x.setHead(0, true, 9), 1);
        x.read(0);
        DUE.is("sector(0, 0)", x.sector(0, 0), 9);
    }

    static void promise03NoSpareOnesAreBad() {
        for (int value : new int[] {0, -1, MIN_VALUE}) {
            UNCHANGED.by(LentSectors.BAD_VALUE, "setHead(3, false, " + value + ")", x -> x.setHead(3, false, value));
        }
    }

    static void promise03MoreThan6SpareOnesAreBad() {
        for (int value : new int[] {7, 9, 16, 17, MAX_VALUE}) {
            UNCHANGED.by(LentSectors.BAD_VALUE, "setHead(3, false, " + value + ")", x -> x.setHead(3, false, value));
        }
    }

    static void promise03With1SpareOnePlace14IsTheLastAddress() {
        LentSectors x = new LentSectors();
        DUE.is("setHead(1, false, 1)", x.setHead(1, false, 1), 4);
        DUE.is("address(30, 1)", x.address(30, 1), 30);
        DUE.is("address(30, 0)", x.address(30, 0), 0);
        DUE.is("sector(30, 3)", x.sector(30, 3), 30);
        DUE.is("address(31, 1)", x.address(31, 1), LentSectors.UNKNOWN);
        DUE.is("sector(31, 4)", x.sector(31, 4), 1);
        DUE.is("count(1)", x.count(1), 51);
    }

    static void promise03With6SpareOnesPlace9IsTheLastAddress() {
        LentSectors x = new LentSectors();
        DUE.is("setHead(1, false, 6)", x.setHead(1, false, 6), 4);
        DUE.is("address(25, 1)", x.address(25, 1), 25);
        DUE.is("address(26, 1)", x.address(26, 1), LentSectors.UNKNOWN);
        DUE.is("sector(26, 3)", x.sector(26, 3), LentSectors.NONE);
        DUE.is("sector(26, 4)", x.sector(26, 4), 1);
        DUE.is("address(16, 3)", x.address(16, 3), 26);
        DUE.is("count(1)", x.count(1), 46);
    }

    static void promise03SpareOnesThatBecomeOwnOnesServeThemselvesAgain() {
        LentSectors x = new LentSectors();
        x.setHead(2, false, 6);
        x.setHead(2, false, 1);
        for (int address = 32; address <= 46; address++) {
            DUE.is("address(" + address + ", 1)", x.address(address, 1), address);
        }
        DUE.is("write(46, 3)", x.write(46, 3), 46);
    }

    static void promise03AnAgeingMayBeMoreThanSpareOnes() {
        LentSectors x = new LentSectors();
        DUE.is("setHead(0, false, 7)", x.setHead(0, false, 7), LentSectors.BAD_VALUE);
        DUE.is("setHead(0, true, 7)", x.setHead(0, true, 7), 1);
        DUE.is("head(0, 1)", x.head(0, 1), 4);
    }

    // "NOT_POSSIBLE if it is the spare ones, and either any sector of the head has a wear above 0, or the
    // head is given up"

    static void promise03TheLeastWearOfTheFirstSectorIsTooMuch() {
        UNCHANGED.on(() -> {
            LentSectors x = new LentSectors();
            x.read(0);
            return x;
        }, LentSectors.NOT_POSSIBLE, "setHead(0, false, 5)", x -> x.setHead(0, false, 5));
    }

    private static LentSectors withTheLastSectorsWorn() {
        LentSectors x = Calls.withOneSpareEach();
        x.giveUp(0);
        return x;
    }

    static void promise03WearOfTheLastSectorIsTooMuch() {
        DUE.is("sector(31, 0)", withTheLastSectorsWorn().sector(31, 0), 4);
        DUE.is("head(1, 7)", withTheLastSectorsWorn().head(1, 7), 4);
        UNCHANGED.on(BoundarySettingsTest::withTheLastSectorsWorn, LentSectors.NOT_POSSIBLE,
            "setHead(1, false, 2)", x -> x.setHead(1, false, 2));
    }

    static void promise03WearOfOtherHeadsIsNoMatter() {
        LentSectors x = new LentSectors();
        x.read(0);
        x.read(32);
        DUE.is("setHead(1, false, 3)", x.setHead(1, false, 3), 4);
    }

    static void promise03WearThatWasUndoneIsNoMatter() {
        LentSectors x = new LentSectors();
        x.read(0);
        x.undo();
        DUE.is("setHead(0, false, 3)", x.setHead(0, false, 3), 4);
    }

    static void promise03AGivenUpHeadWithoutWearKeepsItsSpareOnes() {
        DUE.is("head(3, 7)", Calls.withNothingFree().head(3, 7), 0);
        UNCHANGED.on(Calls::withNothingFree, LentSectors.NOT_POSSIBLE, "setHead(3, false, 3)",
            x -> x.setHead(3, false, 3));
    }

    static void promise03NotPossibleIsForSpareOnesAlone() {
        LentSectors x = Calls.withNothingFree();
        x.read(0);
        DUE.is("setHead(0, true, 5), worn", x.setHead(0, true, 5), 1);
        DUE.is("setHead(3, true, 5), given up", x.setHead(3, true, 5), 4);
    }

    static void promise03BadValueComesAheadOfNotPossible() {
        UNCHANGED.on(Calls::used, LentSectors.BAD_VALUE, "setHead(0, false, 0)", x -> x.setHead(0, false, 0));
        UNCHANGED.on(Calls::used, LentSectors.BAD_VALUE, "setHead(0, false, 7)", x -> x.setHead(0, false, 7));
        UNCHANGED.on(Calls::withNothingFree, LentSectors.BAD_VALUE, "setHead(3, false, 7)",
            x -> x.setHead(3, false, 7));
    }

    static void promise03NotPossibleComesAheadOfNone() {
        UNCHANGED.on(Calls::used, LentSectors.NOT_POSSIBLE, "setHead(0, false, 4), worn",
            x -> x.setHead(0, false, 4));
        UNCHANGED.on(Calls::withNothingFree, LentSectors.NOT_POSSIBLE, "setHead(3, false, 4), given up",
            x -> x.setHead(3, false, 4));
    }

    static void promise03TheAgeingThatIsSoAlreadyIsNone() {
        UNCHANGED.by(LentSectors.NONE, "setHead(0, true, 1)", x -> x.setHead(0, true, 1));
        UNCHANGED.by(LentSectors.NONE, "setHead(3, true, 4)", x -> x.setHead(3, true, 4));
    }

    static void promise03TheSpareOnesThatAreSoAlreadyAreNone() {
        UNCHANGED.by(LentSectors.NONE, "setHead(3, false, 4)", x -> x.setHead(3, false, 4));
        UNCHANGED.on(Calls::used, LentSectors.NONE, "setHead(2, false, 5)", x -> x.setHead(2, false, 5));
    }

    static void promise03OneNumberOfOneHeadIsSet() {
        LentSectors x = new LentSectors();
        x.setHead(1, true, 5);
        x.setHead(2, false, 5);
        int[][] rows = {{1, 4}, {5, 4}, {3, 5}, {4, 4}};
        for (int head = 0; head < 4; head++) {
            DUE.is("head(" + head + ", 0)", x.head(head, 0), rows[head][0]);
            DUE.is("head(" + head + ", 1)", x.head(head, 1), rows[head][1]);
        }
    }

    static void promise03AnAgeingCountsForWhatComesThen() {
        LentSectors x = new LentSectors();
        x.read(48);
        x.setHead(3, true, 9);
        DUE.is("sector(48, 0)", x.sector(48, 0), 4);
        x.read(48);
        DUE.is("sector(48, 0)", x.sector(48, 0), 13);
    }

    static void promise03ItIsAnAct() {
        LentSectors x = new LentSectors();
        x.setHead(0, true, 3);
        x.setHead(0, false, 3);
        DUE.is("count(12)", x.count(12), 2);
        DUE.is("undo()", x.undo(), 1);
        DUE.is("head(0, 1)", x.head(0, 1), 4);
        DUE.is("address(12, 0)", x.address(12, 0), LentSectors.UNKNOWN);
        DUE.is("undo()", x.undo(), 0);
        DUE.is("head(0, 0)", x.head(0, 0), 1);
    }
}
