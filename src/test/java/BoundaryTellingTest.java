import static java.lang.Integer.MAX_VALUE;
import static java.lang.Integer.MIN_VALUE;

/**
 * The boundary cases of promises 16 to 22, a test for each sentence: address, sector, head, readsLeft,
 * wouldLose, worst, count.
 */
public final class BoundaryTellingTest {
    private static final Due DUE = new Due("BoundaryTellingTest");
    private static final Unchanged UNCHANGED = new Unchanged(DUE);
    private static final int[] NO_ADDRESSES = {-1, MIN_VALUE, 64, MAX_VALUE, 12, 15, 28, 63};
    private static final int[] NO_HEADS = {-1, MIN_VALUE, 4, MAX_VALUE};

    public static void main(String[] args) {
        DUE.runSentences(BoundaryTellingTest.class, 16, 17, 18, 19, 20, 21, 22);
        DUE.end();
    }

    private static LentSectors withLimit(int limit) {
        LentSectors x = new LentSectors();
        x.setLimit(limit);
        return x;
    }

    private static void told(String call, LentSectors x, int address, int... due) {
        for (int what = 0; what < due.length; what++) {
            DUE.is(call + "address(" + address + ", " + what + ")", x.address(address, what), due[what]);
        }
    }

    // "0 for its value (NONE if it is lost), 1 for the sector that serves it (NONE if it is lost), 2 for whether
    // it is served the long way (1, otherwise 0), 3 for the sector that can be lent to it now (NONE if there is
    // none), 4 for how many steps it takes the arm to go to it now (NONE if it is lost), 5 for its rescues so far"

    static void promise16NoAddressIsUnknown() {
        for (int address : NO_ADDRESSES) {
            for (int what = 0; what < 6; what++) {
                DUE.is("address(" + address + ", " + what + ")", new LentSectors().address(address, what), LentSectors.UNKNOWN);
            }
        }
        DUE.is("address(28, 0), which is lent", Calls.used().address(28, 0), LentSectors.UNKNOWN);
    }

    static void promise16UnknownComesAheadOfBadValue() {
        for (int address : NO_ADDRESSES) {
            DUE.is("address(" + address + ", 6)", new LentSectors().address(address, 6), LentSectors.UNKNOWN);
            DUE.is("address(" + address + ", -1)", new LentSectors().address(address, -1), LentSectors.UNKNOWN);
        }
    }

    static void promise16WhatBelow0IsBad() {
        DUE.is("address(0, -1)", new LentSectors().address(0, -1), LentSectors.BAD_VALUE);
        DUE.is("address(0, MIN)", new LentSectors().address(0, MIN_VALUE), LentSectors.BAD_VALUE);
    }

    static void promise16WhatAbove5IsBad() {
        DUE.is("address(0, 5)", new LentSectors().address(0, 5), 0);
        DUE.is("address(0, 6)", new LentSectors().address(0, 6), LentSectors.BAD_VALUE);
        DUE.is("address(0, MAX)", new LentSectors().address(0, MAX_VALUE), LentSectors.BAD_VALUE);
    }

    static void promise16BadValueComesAheadOfNone() {
        LentSectors x = Calls.with0Lost();
        DUE.is("address(0, 6)", x.address(0, 6), LentSectors.BAD_VALUE);
        DUE.is("address(0, -1)", x.address(0, -1), LentSectors.BAD_VALUE);
    }

    static void promise16TheFirstAndTheLastAddressesAreTold() {
        LentSectors x = Calls.withOneSpareEach();
        DUE.is("address(0, 1)", x.address(0, 1), 0);
        DUE.is("address(62, 1)", x.address(62, 1), 62);
        DUE.is("address(63, 1)", x.address(63, 1), LentSectors.UNKNOWN);
        DUE.is("address(14, 1)", x.address(14, 1), 14);
        DUE.is("address(15, 1)", x.address(15, 1), LentSectors.UNKNOWN);
    }

    static void promise16OfALostAddressNothingToLend() {
        told("", Calls.with0Lost(), 0, LentSectors.NONE, LentSectors.NONE, 0, LentSectors.NONE, LentSectors.NONE, 4);
    }

    static void promise16OfALostAddressWithOneToLend() {
        LentSectors x = Calls.with0Lost();
        x.setLimit(99);
        told("", x, 0, LentSectors.NONE, LentSectors.NONE, 0, 15, LentSectors.NONE, 4);
    }

    static void promise16OfALostAddressOfAGivenUpHead() {
        LentSectors x = Calls.withOneSpareEach();
        x.giveUp(0);
        told("", x, 3, LentSectors.NONE, LentSectors.NONE, 0, LentSectors.NONE, LentSectors.NONE, 0);
    }

    static void promise16OfAnAddressOnItsOwnSector() {
        LentSectors x = new LentSectors();
        x.write(5, 999);
        told("", x, 5, 999, 5, 0, 12, 0, 0);
        told("", x, 37, 0, 37, 0, 44, 2, 0);
        told("", x, 11, 0, 11, 0, 12, 6, 0);
    }

    static void promise16OfAnAddressTheLongWay() {
        told("", Calls.used(), 20, 77, 28, 1, 29, 3 + 2 + 8, 1);
    }

    static void promise16OfAnAddressOfAGivenUpHead() {
        told("", Calls.withNothingFree(), 53, 0, 45, 1, LentSectors.NONE, 13 + 2, 0);
    }

    static void promise16TellingChangesNothing() {
        int[] due = {77, 28, 1, 29, 13, 1};
        for (int i = 0; i < due.length; i++) {
            int what = i;
            UNCHANGED.on(Calls::used, due[i], "address(20, " + i + ")", x -> x.address(20, what));
        }
    }

    // "sector: 0 to 63"; "0 for its wear, 1 for 0 if it is good, 1 if it is weak, 2 if it is bad; 2 for whether
    // it is spare (1, otherwise 0), 3 for the address that it serves (NONE if it serves none), 4 for whether it
    // is free (1, otherwise 0)"

    static void promise17ASectorBelow0IsUnknown() {
        for (int what = 0; what < 5; what++) {
            DUE.is("sector(-1, " + what + ")", new LentSectors().sector(-1, what), LentSectors.UNKNOWN);
            DUE.is("sector(MIN, " + what + ")", new LentSectors().sector(MIN_VALUE, what), LentSectors.UNKNOWN);
        }
    }

    static void promise17ASectorAbove63IsUnknown() {
        for (int what = 0; what < 5; what++) {
            DUE.is("sector(64, " + what + ")", new LentSectors().sector(64, what), LentSectors.UNKNOWN);
            DUE.is("sector(MAX, " + what + ")", new LentSectors().sector(MAX_VALUE, what), LentSectors.UNKNOWN);
        }
    }

    static void promise17UnknownComesAheadOfBadValue() {
        DUE.is("sector(64, 5)", new LentSectors().sector(64, 5), LentSectors.UNKNOWN);
        DUE.is("sector(-1, -1)", new LentSectors().sector(-1, -1), LentSectors.UNKNOWN);
    }

    static void promise17WhatBelow0IsBad() {
        DUE.is("sector(0, -1)", new LentSectors().sector(0, -1), LentSectors.BAD_VALUE);
        DUE.is("sector(63, MIN)", new LentSectors().sector(63, MIN_VALUE), LentSectors.BAD_VALUE);
    }

    static void promise17WhatAbove4IsBad() {
        DUE.is("sector(63, 4)", new LentSectors().sector(63, 4), 1);
        DUE.is("sector(63, 5)", new LentSectors().sector(63, 5), LentSectors.BAD_VALUE);
        DUE.is("sector(0, MAX)", new LentSectors().sector(0, MAX_VALUE), LentSectors.BAD_VALUE);
    }

    private static void toldOfSector(LentSectors x, int sector, int... due) {
        for (int what = 0; what < due.length; what++) {
            DUE.is("sector(" + sector + ", " + what + ")", x.sector(sector, what), due[what]);
        }
    }

    static void promise17SectorsOfAllKindsAreTold() {
        LentSectors x = Calls.used();
        toldOfSector(x, 20, 4, 1, 0, LentSectors.NONE, 0);
        toldOfSector(x, 28, 4, 1, 1, 20, 0);
        toldOfSector(x, 29, 0, 0, 1, LentSectors.NONE, 1);
        toldOfSector(x, 0, 2, 0, 0, 0, 0);
        toldOfSector(x, 63, 0, 0, 1, LentSectors.NONE, 1);
        toldOfSector(x, 43, 0, 0, 1, LentSectors.NONE, 1);
        toldOfSector(x, 42, 0, 0, 0, 42, 0);
    }

    static void promise17OneThatIsGoodWeakAndBad() {
        LentSectors x = new LentSectors();
        x.write(0, 1);
        x.read(0);
        int[][] gradeByLimit = {{999, 0}, {4, 0}, {3, 1}, {2, 1}, {1, 2}};
        for (int[] row : gradeByLimit) {
            x.setLimit(row[0]);
            DUE.is("sector(0, 1) with wear 3 and limit " + row[0], x.sector(0, 1), row[1]);
        }
    }

    static void promise17AnOwnSectorOfALostAddressServesNone() {
        LentSectors x = Calls.with0Lost();
        toldOfSector(x, 0, 2, 2, 0, LentSectors.NONE, 0);
        toldOfSector(x, 63, 16, 2, 1, LentSectors.NONE, 0);
    }

    static void promise17SectorsOfAGivenUpHeadAreNotFree() {
        LentSectors x = Calls.withNothingFree();
        toldOfSector(x, 48, 0, 0, 0, LentSectors.NONE, 0);
        toldOfSector(x, 60, 0, 0, 1, LentSectors.NONE, 0);
        toldOfSector(x, 12, 2, 0, 1, 48, 0);
    }

    static void promise17TellingChangesNothing() {
        int[] due = {4, 1, 1, 20, 0};
        for (int i = 0; i < due.length; i++) {
            int what = i;
            UNCHANGED.on(Calls::used, due[i], "sector(28, " + i + ")", x -> x.sector(28, what));
        }
    }

    // "head: 0 to 3"; "0 for its ageing, 1 for its spare sectors, 2 for the free ones of these, 3 for whether it
    // is given up (1, otherwise 0), 4 for its sectors that are lent to addresses of other heads, 5 for its
    // addresses that are served by sectors of other heads, 6 for its addresses that are lost, 7 for the sum of
    // the wear of its sectors, 8 for its sectors that are weak, 9 for those that are bad"

    static void promise18NoHeadIsUnknown() {
        for (int head : NO_HEADS) {
            for (int what = 0; what < 10; what++) {
                DUE.is("head(" + head + ", " + what + ")", new LentSectors().head(head, what), LentSectors.UNKNOWN);
            }
        }
    }

    static void promise18UnknownComesAheadOfBadValue() {
        for (int head : NO_HEADS) {
            DUE.is("head(" + head + ", 10)", new LentSectors().head(head, 10), LentSectors.UNKNOWN);
            DUE.is("head(" + head + ", -1)", new LentSectors().head(head, -1), LentSectors.UNKNOWN);
        }
    }

    static void promise18WhatBelow0IsBad() {
        DUE.is("head(0, -1)", new LentSectors().head(0, -1), LentSectors.BAD_VALUE);
        DUE.is("head(3, MIN)", new LentSectors().head(3, MIN_VALUE), LentSectors.BAD_VALUE);
    }

    static void promise18WhatAbove9IsBad() {
        DUE.is("head(3, 9)", new LentSectors().head(3, 9), 0);
        DUE.is("head(3, 10)", new LentSectors().head(3, 10), LentSectors.BAD_VALUE);
        DUE.is("head(0, MAX)", new LentSectors().head(0, MAX_VALUE), LentSectors.BAD_VALUE);
    }

    private static void toldOfHead(LentSectors x, int head, int... due) {
        for (int what = 0; what < due.length; what++) {
            DUE.is("head(" + head + ", " + what + ")", x.head(head, what), due[what]);
        }
    }

    static void promise18WhatIsLentWithinAHeadIsNotOfOthers() {
        toldOfHead(Calls.used(), 1, 2, 4, 3, 0, 0, 0, 0, 4 + 4, 2, 0);
        toldOfHead(Calls.used(), 0, 1, 4, 4, 0, 0, 0, 0, 2 + 2, 0, 0);
    }

    static void promise18OfAGivenUpHead() {
        LentSectors x = Calls.withNothingFree();
        toldOfHead(x, 3, 4, 4, 0, 1, 0, 12, 0, 0, 0, 0);
        toldOfHead(x, 0, 1, 4, 0, 0, 4, 0, 0, 8, 0, 0);
        toldOfHead(x, 2, 3, 4, 0, 0, 4, 0, 0, 24, 0, 0);
    }

    static void promise18LostAddressesAreServedByNone() {
        LentSectors x = Calls.with0Lost();
        toldOfHead(x, 0, 1, 1, 0, 0, 0, 0, 1, 2 + 4, 0, 2);
        toldOfHead(x, 3, 4, 1, 0, 0, 0, 0, 0, 16, 0, 1);
    }

    static void promise18WearOfTheLimitIsWeakAndOfTwiceTheLimitBad() {
        LentSectors x = new LentSectors();
        x.read(48);
        int[][] weakAndBadByLimit = {{5, 0, 0}, {4, 1, 0}, {3, 1, 0}, {2, 0, 1}, {1, 0, 1}};
        for (int[] row : weakAndBadByLimit) {
            x.setLimit(row[0]);
            DUE.is("head(3, 8) with limit " + row[0], x.head(3, 8), row[1]);
            DUE.is("head(3, 9) with limit " + row[0], x.head(3, 9), row[2]);
            DUE.is("head(3, 2) with limit " + row[0], x.head(3, 2), 4);
        }
    }

    static void promise18TheFirstAndTheLastSectorsCount() {
        LentSectors x = Calls.withOneSpareEach();
        x.giveUp(3);
        x.read(16);
        DUE.is("head(1, 7), of 16 and 31", x.head(1, 7), 2 + 4);
        DUE.is("head(1, 4), 31 is lent to 49", x.head(1, 4), 1);
        DUE.is("head(3, 5)", x.head(3, 5), 3);
        DUE.is("head(3, 6)", x.head(3, 6), 12);
        x.setLimit(2);
        DUE.is("head(1, 8)", x.head(1, 8), 1);
        DUE.is("head(1, 9)", x.head(1, 9), 1);
        LentSectors y = Calls.withOneSpareEach();
        y.giveUp(0);
        y.giveUp(1);
        DUE.is("head(1, 6), places 0 to 14", y.head(1, 6), 15);
    }

    static void promise18TellingChangesNothing() {
        int[] due = {2, 4, 3, 0, 0, 0, 0, 8, 2, 0};
        for (int i = 0; i < due.length; i++) {
            int what = i;
            UNCHANGED.on(Calls::used, due[i], "head(1, " + i + ")", x -> x.head(1, what));
        }
    }

    // "Returns the number of reads, with the one by which it is so; UNKNOWN; NOT_POSSIBLE if it is lost; NONE if
    // 2000 reads do not do it."

    static void promise19NoAddressIsUnknown() {
        for (int address : NO_ADDRESSES) {
            DUE.is("readsLeft(" + address + ")", new LentSectors().readsLeft(address), LentSectors.UNKNOWN);
        }
        DUE.is("readsLeft(28), which is lent", Calls.used().readsLeft(28), LentSectors.UNKNOWN);
    }

    static void promise19ALostAddressIsNotPossible() {
        DUE.is("readsLeft(0)", Calls.with0Lost().readsLeft(0), LentSectors.NOT_POSSIBLE);
        LentSectors x = Calls.with0Lost();
        x.setLimit(99);
        DUE.is("readsLeft(0), though one can be lent", x.readsLeft(0), LentSectors.NOT_POSSIBLE);
    }

    static void promise19TheReadThatReachesTheLimitCounts() {
        LentSectors x = withLimit(3);
        DUE.is("readsLeft(0)", x.readsLeft(0), 3);
        DUE.is("readsLeft(16), 2 and 4", x.readsLeft(16), 2);
        DUE.is("readsLeft(32), 3", x.readsLeft(32), 1);
        DUE.is("readsLeft(48), 4", x.readsLeft(48), 1);
    }

    static void promise19OneReadIsLeftAtTheLeast() {
        LentSectors x = Calls.used();
        DUE.is("readsLeft(20), weak already", x.readsLeft(20), 1);
        x.setLimit(1);
        DUE.is("readsLeft(0), bad already", x.readsLeft(0), 1);
        LentSectors y = Calls.withNothingFree();
        y.setLimit(1);
        DUE.is("readsLeft(48), bad already, nothing to lend", y.readsLeft(48), 1);
    }

    static void promise19WithNothingToLendTheReadThatMakesItBadCounts() {
        LentSectors x = Calls.withNothingFree();
        x.setLimit(3);
        DUE.is("readsLeft(0), 1 to 6", x.readsLeft(0), 6);
        DUE.is("readsLeft(16), 2, 4, 6", x.readsLeft(16), 3);
        DUE.is("readsLeft(48), on 12: 3 to 6", x.readsLeft(48), 4);
        for (int i = 0; i < 5; i++) {
            x.read(0);
            DUE.is("readsLeft(0)", x.readsLeft(0), 5 - i);
        }
        x.read(0);
        DUE.is("readsLeft(0), lost", x.readsLeft(0), LentSectors.NOT_POSSIBLE);
    }

    static void promise19TheWearOfALentSectorCountsByItsOwnHead() {
        LentSectors x = Calls.withNothingFree();
        x.setLimit(99);
        DUE.is("readsLeft(50), on 44: 9, 12, .., 198", x.readsLeft(50), 64);
        x.setHead(3, true, 9);
        DUE.is("readsLeft(50), 48 has no part in it", x.readsLeft(50), 64);
        x.setHead(2, true, 9);
        DUE.is("readsLeft(50), 15, 24, .., 204", x.readsLeft(50), 22);
    }

    static void promise19TheMostReadsAre1998AndNotNone() {
        LentSectors x = Calls.withNothingFree();
        x.setLimit(999);
        DUE.is("readsLeft(0)", x.readsLeft(0), 1998);
        x.read(0);
        DUE.is("readsLeft(0)", x.readsLeft(0), 1997);
        DUE.is("readsLeft(0), with one to lend", withLimit(999).readsLeft(0), 999);
    }

    static void promise19SoManyReadsDoIt() {
        LentSectors x = withLimit(20);
        x.write(33, 1);
        int left = x.readsLeft(33);
        DUE.is("readsLeft(33), 9, 12, 15, 18, 21", left, 5);
        for (int i = 0; i < left; i++) {
            DUE.is("address(33, 1) ahead of read " + i, x.address(33, 1), 33);
            x.read(33);
        }
        DUE.is("address(33, 1)", x.address(33, 1), 44);
    }

    static void promise19TellingChangesNothing() {
        UNCHANGED.on(Calls::used, 2, "readsLeft(0)", x -> x.readsLeft(0));
        UNCHANGED.on(Calls::used, 1, "readsLeft(20)", x -> x.readsLeft(20));
        UNCHANGED.on(Calls::with0Lost, 2, "readsLeft(1)", x -> x.readsLeft(1));
        UNCHANGED.on(Calls::with0Lost, LentSectors.NOT_POSSIBLE, "readsLeft(0)", x -> x.readsLeft(0));
    }

    // "Returns how many; UNKNOWN; NONE if it is given up already."

    static void promise20NoHeadIsUnknown() {
        for (int head : NO_HEADS) {
            DUE.is("wouldLose(" + head + ")", new LentSectors().wouldLose(head), LentSectors.UNKNOWN);
        }
    }

    static void promise20AHeadThatIsGivenUpAlreadyIsNone() {
        LentSectors x = Calls.withNothingFree();
        DUE.is("wouldLose(3)", x.wouldLose(3), LentSectors.NONE);
        x.giveUp(0);
        x.giveUp(1);
        DUE.is("wouldLose(0)", x.wouldLose(0), LentSectors.NONE);
        DUE.is("wouldLose(1)", x.wouldLose(1), LentSectors.NONE);
        DUE.is("wouldLose(3)", x.wouldLose(3), LentSectors.NONE);
    }

    static void promise20NoneWouldBeLostWhileAllCanBeLent() {
        for (int head = 0; head < 4; head++) {
            DUE.is("wouldLose(" + head + ")", new LentSectors().wouldLose(head), 0);
        }
    }

    static void promise20OneWouldBeLostIfOneSectorIsMissing() {
        LentSectors x = new LentSectors();
        x.setHead(1, false, 3);
        DUE.is("wouldLose(0), 12 addresses for 11 sectors", x.wouldLose(0), 1);
        DUE.is("wouldLose(1), 13 addresses for 12 sectors", x.wouldLose(1), 1);
    }

    static void promise20WithNothingToLendAllWouldBeLost() {
        LentSectors x = Calls.withNothingFree();
        for (int head = 0; head < 3; head++) {
            DUE.is("wouldLose(" + head + "), with 4 that are lent", x.wouldLose(head), 16);
        }
    }

    static void promise20WhatIsLostAlreadyIsLeftOut() {
        LentSectors x = Calls.with0Lost();
        DUE.is("wouldLose(0)", x.wouldLose(0), 14);
        DUE.is("wouldLose(1)", x.wouldLose(1), 15);
    }

    static void promise20OfTheLastHeadItTellsTheNumber() {
        LentSectors x = Calls.withNothingFree();
        x.giveUp(0);
        x.giveUp(1);
        DUE.is("giveUp(2)", x.giveUp(2), LentSectors.NOT_POSSIBLE);
        DUE.is("wouldLose(2)", x.wouldLose(2), 16);
    }

    static void promise20ItIsWhatGivingUpReturns() {
        for (int head = 0; head < 4; head++) {
            LentSectors x = Calls.with17LostAnd15Free();
            int due = x.wouldLose(head);
            DUE.is("giveUp(" + head + ")", x.giveUp(head), due);
        }
    }

    static void promise20TellingChangesNothing() {
        UNCHANGED.on(LentSectors::new, 0, "wouldLose(2)", x -> x.wouldLose(2));
        UNCHANGED.on(Calls::used, 0, "wouldLose(1)", x -> x.wouldLose(1));
        UNCHANGED.on(() -> Calls.usedWithLimit(99), 0, "wouldLose(0)", x -> x.wouldLose(0));
        UNCHANGED.on(Calls::withNothingFree, 16, "wouldLose(0)", x -> x.wouldLose(0));
        UNCHANGED.on(Calls::withNothingFree, LentSectors.NONE, "wouldLose(3)", x -> x.wouldLose(3));
    }

    // "the greatest first, of several the lowest address; those that are lost are left out"; "rank: a rank, from
    // 0"; "BAD_VALUE if rank is negative; NONE if there are not so many."

    static void promise21ANegativeRankIsBad() {
        for (int rank : new int[] {-1, -5, MIN_VALUE}) {
            DUE.is("worst(" + rank + ")", new LentSectors().worst(rank), LentSectors.BAD_VALUE);
        }
    }

    static void promise21TheLastRankIsTold() {
        LentSectors x = new LentSectors();
        DUE.is("worst(47)", x.worst(47), 59);
        LentSectors y = Calls.withOneSpareEach();
        DUE.is("worst(59)", y.worst(59), 62);
    }

    static void promise21ARankBehindTheLastIsNone() {
        DUE.is("worst(48)", new LentSectors().worst(48), LentSectors.NONE);
        DUE.is("worst(64)", new LentSectors().worst(64), LentSectors.NONE);
        DUE.is("worst(MAX)", new LentSectors().worst(MAX_VALUE), LentSectors.NONE);
        DUE.is("worst(60)", Calls.withOneSpareEach().worst(60), LentSectors.NONE);
    }

    static void promise21LostAddressesAreLeftOut() {
        LentSectors x = Calls.with0Lost();
        DUE.is("worst(0)", x.worst(0), 1);
        DUE.is("worst(58)", x.worst(58), 62);
        DUE.is("worst(59)", x.worst(59), LentSectors.NONE);
    }

    static void promise21TheGreatestWearIsFirst() {
        LentSectors x = new LentSectors();
        x.read(0);
        x.read(16);
        x.read(59);
        int[] order = {59, 16, 0, 1, 2};
        for (int rank = 0; rank < order.length; rank++) {
            DUE.is("worst(" + rank + ")", x.worst(rank), order[rank]);
        }
    }

    static void promise21OfSeveralTheLowestAddressIsFirst() {
        LentSectors x = new LentSectors();
        x.write(17, 1);
        x.read(48);
        x.read(18);
        x.read(18);
        int[] order = {17, 18, 48, 0, 1};
        for (int rank = 0; rank < order.length; rank++) {
            DUE.is("worst(" + rank + ")", x.worst(rank), order[rank]);
        }
    }

    static void promise21TheWearOfALentSectorCounts() {
        LentSectors x = Calls.withNothingFree();
        int[] order = {50, 53, 56, 59, 49, 52, 55, 58, 48, 51, 54, 57, 0};
        for (int rank = 0; rank < order.length; rank++) {
            DUE.is("worst(" + rank + ")", x.worst(rank), order[rank]);
        }
        LentSectors y = withLimit(10);
        for (int i = 0; i < 10; i++) {
            y.read(0);
        }
        y.read(32);
        DUE.is("address(0, 1), on 12 with wear 2", y.address(0, 1), 12);
        DUE.is("worst(0), 32 with wear 3", y.worst(0), 32);
        DUE.is("worst(1)", y.worst(1), 0);
    }

    static void promise21TellingChangesNothing() {
        UNCHANGED.on(Calls::used, 20, "worst(0)", x -> x.worst(0));
        UNCHANGED.on(Calls::used, LentSectors.NONE, "worst(47)", x -> x.worst(47));
        UNCHANGED.by(LentSectors.BAD_VALUE, "worst(-1)", x -> x.worst(-1));
    }

    // "0 for the limit, 1 for the addresses, 2 for those that are lost, 3 for those that are served the long way,
    // 4 for free sectors, 5 for the place of the arm, 6 for the head that is chosen, 7 for steps so far, .."

    static void promise22WhatBelow0IsBad() {
        DUE.is("count(-1)", new LentSectors().count(-1), LentSectors.BAD_VALUE);
        DUE.is("count(MIN)", new LentSectors().count(MIN_VALUE), LentSectors.BAD_VALUE);
    }

    static void promise22WhatAbove13IsBad() {
        DUE.is("count(13)", new LentSectors().count(13), 0);
        DUE.is("count(14)", new LentSectors().count(14), LentSectors.BAD_VALUE);
        DUE.is("count(MAX)", new LentSectors().count(MAX_VALUE), LentSectors.BAD_VALUE);
    }

    private static void counted(LentSectors x, int... due) {
        for (int what = 0; what < due.length; what++) {
            DUE.is("count(" + what + ")", x.count(what), due[what]);
        }
    }

    static void promise22AllOfAUsedObject() {
        counted(Calls.used(), 4, 47, 0, 1, 4 + 3 + 5 + 4, 1, 0, 14 + 14 + 1, 1, 0, 0, 3, 4, 7);
    }

    static void promise22AllWithALostAddress() {
        counted(Calls.with0Lost(), 1, 60, 1, 0, 0, 15, 3, 15 + 30 + 2 + 34 + 2 + 34 + 2 + 34, 4, 1, 0, 5, 4, 0);
    }

    static void promise22AllWithAGivenUpHead() {
        counted(Calls.withNothingFree(), 30, 48, 0, 12, 0, 0, 0, 0, 0, 0, 0, 0, 1, 0);
    }

    static void promise22TheFewestAndTheMostAddresses() {
        DUE.is("count(1)", Calls.withOneSpareEach().count(1), 60);
        DUE.is("count(4)", Calls.withOneSpareEach().count(4), 4);
        LentSectors x = new LentSectors();
        for (int head = 0; head < 4; head++) {
            x.setHead(head, false, 6);
        }
        DUE.is("count(1)", x.count(1), 40);
        DUE.is("count(4)", x.count(4), 24);
    }

    static void promise22AddressesThatAreLostInAllAndSoFarDiffer() {
        LentSectors x = Calls.with0Lost();
        x.setLimit(99);
        x.write(0, 1);
        DUE.is("count(2)", x.count(2), 0);
        DUE.is("count(9)", x.count(9), 1);
        DUE.is("count(3)", x.count(3), 1);
    }

    static void promise22ReadsOfCopiesTestsAndTextsCount() {
        LentSectors x = new LentSectors();
        x.read(0);
        x.copy(0, 16, 2);
        x.test(2);
        DUE.is("perform()", Calls.perform(x, "r5;w6=1"), 2);
        DUE.is("count(10)", x.count(10), 1 + 2 + 12 + 1);
        DUE.is("count(11)", x.count(11), 2 + 1);
    }

    static void promise22WhatRescuesGivingBackAndGivingUpWriteDoesNotCount() {
        LentSectors x = Calls.used();
        DUE.is("count(8)", x.count(8), 1);
        x.setLimit(99);
        x.giveBack(20);
        x.giveUp(0);
        DUE.is("count(11)", x.count(11), 3);
        DUE.is("count(10)", x.count(10), 0);
    }

    static void promise22RefusedReadsAndWritesDoNotCount() {
        LentSectors x = Calls.with0Lost();
        x.read(0);
        x.write(0, 1);
        x.read(15);
        x.write(1, 1000);
        DUE.is("count(10)", x.count(10), 0);
        DUE.is("count(11)", x.count(11), 5);
    }

    static void promise22TheHistoryAndTheTextAreToldAsTheyAre() {
        LentSectors x = new LentSectors();
        for (int i = 1; i <= 6; i++) {
            x.write(1, i);
            DUE.is("count(12)", x.count(12), Math.min(i, 4));
        }
        Calls.typeAll(x, "r".repeat(70));
        DUE.is("count(13)", x.count(13), 60);
        x.undo();
        DUE.is("count(12)", x.count(12), 3);
    }

    static void promise22TellingChangesNothing() {
        int[] due = {4, 47, 0, 1, 16, 1, 0, 29, 1, 0, 0, 3, 4, 7};
        for (int i = 0; i < due.length; i++) {
            int what = i;
            UNCHANGED.on(Calls::used, due[i], "count(" + i + ")", x -> x.count(what));
        }
    }
}
