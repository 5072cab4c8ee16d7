import static java.lang.Integer.MAX_VALUE;
import static java.lang.Integer.MIN_VALUE;

/** The boundary cases of promises 9 and 10, a test for each sentence: giveBack, giveUp. */
public final class BoundaryGivingTest {
    private static final Due DUE = new Due("BoundaryGivingTest");
    private static final Unchanged UNCHANGED = new Unchanged(DUE);

    public static void main(String[] args) {
        DUE.runSentences(BoundaryGivingTest.class, 9, 10);
        DUE.end();
    }

    // "Returns the sector that was lent to it; UNKNOWN; NOT_POSSIBLE if one is lent to it, but either its own
    // sector is not good, or its head is given up; NONE if none is lent to it (a lost address has none)."

    static void promise09NoAddressIsUnknown() {
        for (int address : new int[] {-1, MIN_VALUE, 64, MAX_VALUE, 12, 15, 28, 63}) {
            UNCHANGED.by(LentSectors.UNKNOWN, "giveBack(" + address + ")", x -> x.giveBack(address));
        }
    }

    static void promise09AnOwnSectorOfTheLimitIsNotPossible() {
        DUE.is("sector(20, 0)", Calls.used().sector(20, 0), 4);
        UNCHANGED.on(Calls::used, LentSectors.NOT_POSSIBLE, "giveBack(20) with limit 4", x -> x.giveBack(20));
    }

    static void promise09AnOwnSectorThatIsBadIsNotPossible() {
        UNCHANGED.on(() -> Calls.usedWithLimit(2), LentSectors.NOT_POSSIBLE, "giveBack(20) with limit 2", x -> x.giveBack(20));
    }

    static void promise09AnOwnSectorBelowTheLimitIsPossible() {
        DUE.is("giveBack(20) with limit 5", Calls.usedWithLimit(5).giveBack(20), 28);
    }

    static void promise09AnAddressOfAGivenUpHeadIsNotPossible() {
        DUE.is("sector(48, 1)", Calls.withNothingFree().sector(48, 1), 0);
        UNCHANGED.on(Calls::withNothingFree, LentSectors.NOT_POSSIBLE, "giveBack(48)", x -> x.giveBack(48));
    }

    static void promise09AnAddressThatItsOwnSectorServesIsNone() {
        UNCHANGED.by(LentSectors.NONE, "giveBack(5)", x -> x.giveBack(5));
        UNCHANGED.on(() -> Calls.usedWithLimit(1), LentSectors.NONE, "giveBack(0), own one bad", x -> x.giveBack(0));
    }

    static void promise09ALostAddressIsNoneThoughItsOwnSectorIsBad() {
        DUE.is("sector(0, 1)", Calls.with0Lost().sector(0, 1), 2);
        UNCHANGED.on(Calls::with0Lost, LentSectors.NONE, "giveBack(0)", x -> x.giveBack(0));
    }

    static void promise09ALostAddressIsNoneThoughItsOwnSectorIsGood() {
        UNCHANGED.on(() -> {
            LentSectors x = Calls.with0Lost();
            x.setLimit(99);
            return x;
        }, LentSectors.NONE, "giveBack(0)", x -> x.giveBack(0));
    }

    private static LentSectors withMostOfHead0Lost() {
        LentSectors x = Calls.withOneSpareEach();
        x.giveUp(0);
        return x;
    }

    static void promise09ALostAddressOfAGivenUpHeadIsNone() {
        DUE.is("address(3, 1)", withMostOfHead0Lost().address(3, 1), LentSectors.NONE);
        UNCHANGED.on(BoundaryGivingTest::withMostOfHead0Lost, LentSectors.NONE, "giveBack(3)", x -> x.giveBack(3));
    }

    static void promise09ItIsNoneASecondTime() {
        LentSectors x = Calls.usedWithLimit(99);
        DUE.is("giveBack(20)", x.giveBack(20), 28);
        DUE.is("giveBack(20)", x.giveBack(20), LentSectors.NONE);
    }

    // "the arm goes to it, and then to its own sector, the wear of which grows as by a write; the own sector
    // serves it again, the lent one is lent to none."

    static void promise09TheArmGoesTheLongWayAndBack() {
        LentSectors x = Calls.usedWithLimit(99);
        int steps = x.count(7);
        x.giveBack(20);
        DUE.is("count(7), 5 to 20, 8 to 28, 8 back", x.count(7), steps + 5 + 8 + 8);
        DUE.is("count(5)", x.count(5), 4);
        DUE.is("count(6)", x.count(6), 1);
    }

    static void promise09TheOwnSectorWearsAsByAWriteAndTheLentOneDoesNot() {
        LentSectors x = Calls.usedWithLimit(99);
        x.giveBack(20);
        DUE.is("sector(20, 0)", x.sector(20, 0), 4 + 4);
        DUE.is("sector(28, 0)", x.sector(28, 0), 4);
        DUE.is("count(10)", x.count(10), 0);
        DUE.is("count(11), no write of an address", x.count(11), 3);
    }

    static void promise09TheOwnSectorServesAgainAndTheLentOneIsFree() {
        LentSectors x = Calls.usedWithLimit(99);
        x.giveBack(20);
        DUE.is("address(20, 1)", x.address(20, 1), 20);
        DUE.is("address(20, 0)", x.address(20, 0), 77);
        DUE.is("address(20, 2)", x.address(20, 2), 0);
        DUE.is("sector(20, 3)", x.sector(20, 3), 20);
        DUE.is("sector(28, 3)", x.sector(28, 3), LentSectors.NONE);
        DUE.is("sector(28, 4)", x.sector(28, 4), 1);
    }

    static void promise09TheOwnSectorIsNotLookedAt() {
        LentSectors x = Calls.usedWithLimit(5);
        x.giveBack(20);
        DUE.is("sector(20, 1)", x.sector(20, 1), 1);
        DUE.is("address(20, 1)", x.address(20, 1), 20);
        DUE.is("count(8)", x.count(8), 1);
    }

    static void promise09ASectorOfAnotherHeadIsGivenBack() {
        LentSectors x = Calls.withOneSpareEach();
        x.setLimit(1);
        x.read(0);
        x.read(0);
        x.setLimit(99);
        int steps = x.count(7);
        DUE.is("giveBack(0)", x.giveBack(0), 31);
        DUE.is("count(7)", x.count(7), steps + 17 + 17 + 17);
        DUE.is("sector(31, 3)", x.sector(31, 3), LentSectors.NONE);
    }

    static void promise09ASectorThatIsBadIsGivenBack() {
        LentSectors x = Calls.withOneSpareEach();
        x.setLimit(1);
        x.read(0);
        x.setHead(1, true, 9);
        x.read(0);
        x.setLimit(2);
        DUE.is("sector(0, 1)", x.sector(0, 1), 0);
        DUE.is("sector(31, 1)", x.sector(31, 1), 2);
        DUE.is("giveBack(0)", x.giveBack(0), 31);
        DUE.is("count(9)", x.count(9), 0);
    }

    static void promise09ItIsAnAct() {
        LentSectors x = new LentSectors();
        x.setLimit(4);
        x.write(20, 77);
        x.setLimit(5);
        x.giveBack(20);
        DUE.is("count(12)", x.count(12), 4);
        DUE.is("undo()", x.undo(), 3);
        DUE.is("address(20, 1)", x.address(20, 1), 28);
        DUE.is("sector(28, 3)", x.sector(28, 3), 20);
    }

    // "head: 0 to 3"; "UNKNOWN; NOT_POSSIBLE if the three others are given up; NONE if it is given up already."

    static void promise10AHeadBelow0IsUnknown() {
        UNCHANGED.by(LentSectors.UNKNOWN, "giveUp(-1)", x -> x.giveUp(-1));
        UNCHANGED.by(LentSectors.UNKNOWN, "giveUp(MIN)", x -> x.giveUp(MIN_VALUE));
    }

    static void promise10AHeadAbove3IsUnknown() {
        UNCHANGED.by(LentSectors.UNKNOWN, "giveUp(4)", x -> x.giveUp(4));
        UNCHANGED.by(LentSectors.UNKNOWN, "giveUp(MAX)", x -> x.giveUp(MAX_VALUE));
    }

    private static LentSectors withOneHeadLeft(int left) {
        LentSectors x = new LentSectors();
        for (int head = 0; head < 4; head++) {
            if (head != left) {
                x.giveUp(head);
            }
        }
        return x;
    }

    static void promise10TheLastHeadIsNotPossible() {
        for (int left = 0; left < 4; left++) {
            int head = left;
            UNCHANGED.on(() -> withOneHeadLeft(head), LentSectors.NOT_POSSIBLE, "giveUp(" + head + ")",
                x -> x.giveUp(head));
        }
    }

    static void promise10TheThirdHeadIsPossible() {
        LentSectors x = new LentSectors();
        DUE.is("giveUp(3)", x.giveUp(3), 0);
        DUE.is("giveUp(1)", x.giveUp(1), 12 + 4);
        DUE.is("giveUp(0)", x.giveUp(0), 12 + 4);
        DUE.is("count(2)", x.count(2), 32);
        DUE.is("head(2, 6)", x.head(2, 6), 0);
    }

    static void promise10AHeadThatIsGivenUpAlreadyIsNone() {
        UNCHANGED.on(Calls::withNothingFree, LentSectors.NONE, "giveUp(3)", x -> x.giveUp(3));
        UNCHANGED.on(() -> withOneHeadLeft(1), LentSectors.NONE, "giveUp(0), as the third", x -> x.giveUp(0));
        UNCHANGED.on(() -> withOneHeadLeft(1), LentSectors.NONE, "giveUp(3), as the third", x -> x.giveUp(3));
    }

    static void promise10TheHeadStaysGivenUp() {
        LentSectors x = Calls.withNothingFree();
        x.setLimit(999);
        x.setHead(3, true, 1);
        x.test(3);
        DUE.is("head(3, 3)", x.head(3, 3), 1);
        DUE.is("head(3, 2)", x.head(3, 2), 0);
        DUE.is("giveUp(3)", x.giveUp(3), LentSectors.NONE);
    }

    // "it is given up first, so that none of its sectors is free any more; then, by ascending addresses, each
    // address that is served by a sector of this head gets the sector that can be lent to it .."

    static void promise10NoneGetsASpareSectorOfTheHeadItself() {
        LentSectors x = new LentSectors();
        x.giveUp(0);
        DUE.is("address(0, 1)", x.address(0, 1), 28);
        for (int sector = 12; sector < 16; sector++) {
            DUE.is("sector(" + sector + ", 3)", x.sector(sector, 3), LentSectors.NONE);
            DUE.is("sector(" + sector + ", 4)", x.sector(sector, 4), 0);
        }
    }

    static void promise10TheLowestAddressesAreServedFirst() {
        LentSectors x = Calls.withOneSpareEach();
        DUE.is("giveUp(1)", x.giveUp(1), 15 - 3);
        int[] serving = {15, 47, 63, LentSectors.NONE};
        for (int i = 0; i < serving.length; i++) {
            DUE.is("address(" + (16 + i) + ", 1)", x.address(16 + i, 1), serving[i]);
        }
        DUE.is("address(30, 1), the last one", x.address(30, 1), LentSectors.NONE);
    }

    private static LentSectors with0OnAnotherHead() {
        LentSectors x = new LentSectors();
        x.setLimit(1);
        for (int i = 0; i < 7; i++) {
            x.read(0);
        }
        x.setLimit(99);
        return x;
    }

    static void promise10AnAddressOfAnotherHeadGetsOneOfItsOwnHeadFirst() {
        LentSectors x = with0OnAnotherHead();
        DUE.is("address(0, 1)", x.address(0, 1), 60);
        DUE.is("giveUp(3), 13 addresses for 12 sectors", x.giveUp(3), 1);
        DUE.is("address(0, 1)", x.address(0, 1), 12);
        DUE.is("sector(60, 3)", x.sector(60, 3), LentSectors.NONE);
    }

    static void promise10AnAddressThatIsServedElsewhereStaysThere() {
        LentSectors x = with0OnAnotherHead();
        x.giveUp(0);
        DUE.is("address(0, 1)", x.address(0, 1), 60);
        DUE.is("address(1, 1)", x.address(1, 1), 28);
    }

    static void promise10WhatIsLentGrowsAsByAWriteWithoutStepsAndRescues() {
        LentSectors x = new LentSectors();
        x.write(58, 6);
        int steps = x.count(7);
        DUE.is("giveUp(3)", x.giveUp(3), 0);
        DUE.is("sector(12, 0)", x.sector(12, 0), 2);
        DUE.is("sector(28, 0)", x.sector(28, 0), 4);
        DUE.is("sector(44, 0)", x.sector(44, 0), 6);
        DUE.is("count(7)", x.count(7), steps);
        DUE.is("count(5)", x.count(5), 10);
        DUE.is("count(6), though that head is given up", x.count(6), 3);
        DUE.is("count(8)", x.count(8), 0);
        DUE.is("address(58, 5)", x.address(58, 5), 0);
        DUE.is("count(11)", x.count(11), 1);
        DUE.is("address(58, 1)", x.address(58, 1), 31);
        DUE.is("address(58, 0)", x.address(58, 0), 6);
    }

    static void promise10WhatIsLentIsNotLookedAt() {
        LentSectors x = new LentSectors();
        x.setLimit(2);
        DUE.is("giveUp(3)", x.giveUp(3), 0);
        DUE.is("sector(28, 1)", x.sector(28, 1), 2);
        DUE.is("address(49, 1)", x.address(49, 1), 28);
        DUE.is("count(9)", x.count(9), 0);
    }

    static void promise10WithNothingToLendAllOfItIsLost() {
        LentSectors x = Calls.withNothingFree();
        x.write(0, 9);
        DUE.is("giveUp(0), 12 own ones and 4 on its spare ones", x.giveUp(0), 16);
        DUE.is("count(2)", x.count(2), 16);
        DUE.is("count(9)", x.count(9), 16);
        DUE.is("address(0, 0)", x.address(0, 0), LentSectors.NONE);
        DUE.is("address(48, 1), it was on 12", x.address(48, 1), LentSectors.NONE);
        DUE.is("sector(12, 3)", x.sector(12, 3), LentSectors.NONE);
        DUE.is("sector(0, 3)", x.sector(0, 3), LentSectors.NONE);
    }

    static void promise10WhatIsLostAlreadyIsNotLostByThat() {
        LentSectors x = Calls.with0Lost();
        DUE.is("giveUp(0)", x.giveUp(0), 14);
        DUE.is("count(2)", x.count(2), 15);
        DUE.is("count(9)", x.count(9), 15);
    }

    static void promise10AWornHeadIsGivenUpToo() {
        LentSectors x = new LentSectors();
        x.test(2);
        DUE.is("giveUp(2)", x.giveUp(2), 0);
        DUE.is("head(2, 5)", x.head(2, 5), 12);
        DUE.is("head(2, 7)", x.head(2, 7), 36);
    }

    static void promise10NothingLostIsAnActAllTheSame() {
        LentSectors x = new LentSectors();
        DUE.is("giveUp(2)", x.giveUp(2), 0);
        DUE.is("count(12)", x.count(12), 1);
        DUE.is("undo()", x.undo(), 0);
        DUE.is("head(2, 3)", x.head(2, 3), 0);
        DUE.is("address(32, 1)", x.address(32, 1), 32);
        DUE.is("sector(12, 0)", x.sector(12, 0), 0);
    }
}
