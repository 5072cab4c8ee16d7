import static java.lang.Integer.MAX_VALUE;
import static java.lang.Integer.MIN_VALUE;

/**
 * The boundary cases of promise 4, a test for each sentence: read, and what the terms say of lending,
 * of the arm, and of looking at an address.
 */
public final class BoundaryReadingTest {
    private static final Due DUE = new Due("BoundaryReadingTest");
    private static final Unchanged UNCHANGED = new Unchanged(DUE);

    public static void main(String[] args) {
        DUE.runSentences(BoundaryReadingTest.class, 4);
        DUE.end();
    }

    private static LentSectors withLimit(int limit) {
        LentSectors x = new LentSectors();
        x.setLimit(limit);
        return x;
    }

    private static LentSectors withSpares(int... spares) {
        LentSectors x = new LentSectors();
        for (int head = 0; head < 4; head++) {
            x.setHead(head, false, spares[head]);
        }
        return x;
    }

    private static void readTimes(LentSectors x, int address, int times) {
        for (int i = 0; i < times; i++) {
            x.read(address);
        }
    }

    // "address: an address"; "Returns its value; UNKNOWN; NOT_POSSIBLE if it is lost."

    static void promise04BelowTheFirstSectorIsUnknown() {
        UNCHANGED.by(LentSectors.UNKNOWN, "read(-1)", x -> x.read(-1));
        UNCHANGED.by(LentSectors.UNKNOWN, "read(MIN)", x -> x.read(MIN_VALUE));
    }

    static void promise04AboveTheLastSectorIsUnknown() {
        UNCHANGED.by(LentSectors.UNKNOWN, "read(64)", x -> x.read(64));
        UNCHANGED.by(LentSectors.UNKNOWN, "read(MAX)", x -> x.read(MAX_VALUE));
    }

    static void promise04ASpareSectorIsNoAddress() {
        for (int sector : new int[] {12, 15, 28, 31, 44, 47, 60, 63}) {
            UNCHANGED.by(LentSectors.UNKNOWN, "read(" + sector + ")", x -> x.read(sector));
        }
    }

    static void promise04ALentSectorIsNoAddressEither() {
        DUE.is("sector(28, 3)", Calls.used().sector(28, 3), 20);
        UNCHANGED.on(Calls::used, LentSectors.UNKNOWN, "read(28)", x -> x.read(28));
    }

    static void promise04TheFirstAndTheLastOwnSectorOfEachHeadAreAddresses() {
        for (int address : new int[] {0, 11, 16, 27, 32, 43, 48, 59}) {
            LentSectors x = new LentSectors();
            x.write(address, 999);
            DUE.is("read(" + address + ")", x.read(address), 999);
        }
    }

    static void promise04With1SpareOnePlace14IsRead() {
        LentSectors x = Calls.withOneSpareEach();
        DUE.is("read(14)", x.read(14), 0);
        DUE.is("read(62)", x.read(62), 0);
        DUE.is("read(15)", x.read(15), LentSectors.UNKNOWN);
        DUE.is("read(63)", x.read(63), LentSectors.UNKNOWN);
    }

    static void promise04With6SpareOnesPlace9IsTheLastThatIsRead() {
        LentSectors x = withSpares(6, 6, 6, 6);
        DUE.is("read(9)", x.read(9), 0);
        DUE.is("read(57)", x.read(57), 0);
        DUE.is("read(10)", x.read(10), LentSectors.UNKNOWN);
        DUE.is("read(58)", x.read(58), LentSectors.UNKNOWN);
    }

    static void promise04ALostAddressIsNotPossible() {
        UNCHANGED.on(Calls::with0Lost, LentSectors.NOT_POSSIBLE, "read(0)", x -> x.read(0));
    }

    static void promise04ALostAddressStaysLostWithAHigherLimit() {
        LentSectors x = Calls.with0Lost();
        x.setLimit(999);
        DUE.is("read(0)", x.read(0), LentSectors.NOT_POSSIBLE);
        DUE.is("sector(0, 1)", x.sector(0, 1), 0);
    }

    static void promise04TheReadThatLosesStillReturnsTheValue() {
        LentSectors x = Calls.withNothingFree();
        x.write(0, 44);
        x.setLimit(1);
        DUE.is("read(0)", x.read(0), 44);
        DUE.is("address(0, 0)", x.address(0, 0), LentSectors.NONE);
    }

    static void promise04ItIsAnActAlsoIfItRescuesOrLoses() {
        LentSectors x = Calls.withNothingFree();
        x.setLimit(1);
        readTimes(x, 0, 2);
        DUE.is("address(0, 1)", x.address(0, 1), LentSectors.NONE);
        DUE.is("count(12)", x.count(12), 4);
        x.undo();
        DUE.is("address(0, 1)", x.address(0, 1), 0);
        LentSectors y = withLimit(1);
        y.read(0);
        DUE.is("count(12)", y.count(12), 2);
        y.undo();
        DUE.is("address(0, 1)", y.address(0, 1), 0);
        DUE.is("sector(12, 3)", y.sector(12, 3), LentSectors.NONE);
    }

    // "which grows by reading ..: by the ageing of its head for a read"; ".. of the sector that serves it"

    static void promise04TheWearGrowsByTheLeastAndTheGreatestAgeing() {
        LentSectors x = new LentSectors();
        x.setHead(1, true, 9);
        x.read(0);
        x.read(16);
        DUE.is("sector(0, 0)", x.sector(0, 0), 1);
        DUE.is("sector(16, 0)", x.sector(16, 0), 9);
    }

    static void promise04TheWearOfALentSectorGrowsByTheAgeingOfItsOwnHead() {
        LentSectors x = Calls.withNothingFree();
        x.read(48);
        DUE.is("sector(12, 0), of head 0", x.sector(12, 0), 2 + 1);
        DUE.is("sector(48, 0)", x.sector(48, 0), 0);
        x.read(50);
        DUE.is("sector(44, 0), of head 2", x.sector(44, 0), 6 + 3);
    }

    // "A spare sector is free if it is lent to no address, is good, and its head is not given up."

    private static LentSectors with28Worn4AndGivenBack() {
        LentSectors x = withLimit(4);
        x.write(16, 1);
        x.setLimit(9);
        x.giveBack(16);
        return x;
    }

    static void promise04ASpareSectorBelowTheLimitIsFree() {
        LentSectors x = with28Worn4AndGivenBack();
        x.setLimit(5);
        DUE.is("sector(28, 0)", x.sector(28, 0), 4);
        DUE.is("sector(28, 4)", x.sector(28, 4), 1);
        DUE.is("address(17, 3)", x.address(17, 3), 28);
    }

    static void promise04ASpareSectorOfTheLimitIsNotFree() {
        LentSectors x = with28Worn4AndGivenBack();
        x.setLimit(4);
        DUE.is("sector(28, 4)", x.sector(28, 4), 0);
        DUE.is("address(17, 3)", x.address(17, 3), 29);
        DUE.is("head(1, 2)", x.head(1, 2), 3);
    }

    static void promise04ALentSectorIsNotFreeThoughItIsGood() {
        LentSectors x = Calls.usedWithLimit(99);
        DUE.is("sector(28, 1)", x.sector(28, 1), 0);
        DUE.is("sector(28, 4)", x.sector(28, 4), 0);
        DUE.is("address(20, 3)", x.address(20, 3), 29);
    }

    static void promise04NoSectorOfAGivenUpHeadIsFree() {
        LentSectors x = Calls.withNothingFree();
        DUE.is("sector(60, 1)", x.sector(60, 1), 0);
        DUE.is("sector(60, 3)", x.sector(60, 3), LentSectors.NONE);
        DUE.is("sector(60, 4)", x.sector(60, 4), 0);
        DUE.is("address(0, 3)", x.address(0, 3), LentSectors.NONE);
        DUE.is("address(48, 3), of that head", x.address(48, 3), LentSectors.NONE);
    }

    static void promise04AnOwnSectorThatServesNoneIsNotFree() {
        LentSectors x = Calls.usedWithLimit(99);
        DUE.is("sector(20, 3)", x.sector(20, 3), LentSectors.NONE);
        DUE.is("sector(20, 4)", x.sector(20, 4), 0);
    }

    // "The sector that can be lent ..: of the free ones of its own head, the one with the lowest place; if
    // there is none, of the head with the most free ones, of several the lowest head, the .. lowest place."

    static void promise04TheOwnHeadLendsFirstThoughOthersHaveMore() {
        LentSectors x = withSpares(6, 6, 6, 1);
        x.setLimit(1);
        DUE.is("address(48, 3)", x.address(48, 3), 63);
        x.read(48);
        DUE.is("address(48, 1)", x.address(48, 1), 63);
    }

    static void promise04TheOwnHeadLendsItsLowestPlace() {
        LentSectors x = withLimit(1);
        for (int sector = 28; sector <= 31; sector++) {
            x.read(16);
            DUE.is("address(16, 1)", x.address(16, 1), sector);
        }
    }

    static void promise04TheHeadWithTheMostFreeOnesLendsThen() {
        LentSectors x = withSpares(1, 2, 3, 2);
        x.setLimit(1);
        x.read(0);
        DUE.is("address(0, 3)", x.address(0, 3), 45);
        x.read(0);
        DUE.is("address(0, 1), its lowest place", x.address(0, 1), 45);
    }

    static void promise04TheLastHeadLendsIfItHasTheMost() {
        LentSectors x = withSpares(1, 2, 3, 4);
        x.setLimit(1);
        x.read(0);
        x.read(0);
        DUE.is("address(0, 1)", x.address(0, 1), 60);
    }

    static void promise04OfSeveralWithTheMostTheLowestHeadLends() {
        LentSectors x = withSpares(2, 2, 2, 1);
        x.setLimit(1);
        int[] serving = {63, 14, 30, 46, 15, 31, 47};
        for (int sector : serving) {
            DUE.is("address(48, 3)", x.address(48, 3), sector);
            x.read(48);
            DUE.is("address(48, 1)", x.address(48, 1), sector);
        }
    }

    static void promise04TheMostFreeOnesAreNotTheMostSpareOnes() {
        LentSectors x = withSpares(1, 4, 2, 1);
        x.setLimit(1);
        readTimes(x, 16, 4);
        x.read(0);
        DUE.is("head(1, 2)", x.head(1, 2), 0);
        DUE.is("address(0, 3)", x.address(0, 3), 46);
    }

    static void promise04NoneCanBeLentIfNoneIsFree() {
        LentSectors x = Calls.with0Lost();
        DUE.is("count(4)", x.count(4), 0);
        for (int address : new int[] {0, 1, 16, 62}) {
            DUE.is("address(" + address + ", 3)", x.address(address, 3), LentSectors.NONE);
        }
    }

    // "To go to a sector takes as many steps as its place and that of the arm are apart, and 2 steps more if
    // its head is another one than the chosen one; then the arm stands at its place, with its head chosen."

    static void promise04ToGoWhereTheArmStandsTakesNoSteps() {
        LentSectors x = new LentSectors();
        x.read(0);
        DUE.is("count(7)", x.count(7), 0);
        x.read(37);
        DUE.is("count(7)", x.count(7), 7);
        x.read(37);
        DUE.is("count(7)", x.count(7), 7);
    }

    static void promise04StepsAreThePlacesApartOutwardsAndInwards() {
        LentSectors x = new LentSectors();
        x.read(11);
        DUE.is("count(7)", x.count(7), 11);
        x.read(2);
        DUE.is("count(7)", x.count(7), 20);
        DUE.is("count(5)", x.count(5), 2);
    }

    static void promise04AnotherHeadTakes2StepsMoreHoweverFar() {
        LentSectors x = new LentSectors();
        x.read(48);
        DUE.is("count(7)", x.count(7), 2);
        x.read(32);
        DUE.is("count(7)", x.count(7), 4);
        x.read(5);
        DUE.is("count(7)", x.count(7), 11);
        DUE.is("count(6)", x.count(6), 0);
    }

    // "To go to an address that is served by a sector that is not its own one is to go the long way: to its
    // own sector first (unless its head is given up), and then to the one that serves it"

    static void promise04TheLongWayGoesByTheOwnSector() {
        LentSectors x = Calls.usedWithLimit(99);
        int steps = x.count(7);
        DUE.is("count(5)", x.count(5), 1);
        DUE.is("count(6)", x.count(6), 0);
        DUE.is("address(20, 4)", x.address(20, 4), 3 + 2 + 8);
        x.read(20);
        DUE.is("count(7)", x.count(7), steps + 3 + 2 + 8);
        DUE.is("count(5)", x.count(5), 12);
        DUE.is("count(6)", x.count(6), 1);
    }

    static void promise04TheLongWayToAnotherHeadTakes2StepsMoreTwice() {
        LentSectors x = Calls.withOneSpareEach();
        x.setLimit(1);
        readTimes(x, 0, 2);
        DUE.is("address(0, 1)", x.address(0, 1), 31);
        DUE.is("count(7)", x.count(7), 15 + 30 + 2);
        x.setLimit(99);
        x.read(0);
        DUE.is("count(7)", x.count(7), 47 + 17 + 17);
    }

    static void promise04TheOwnSectorOfAGivenUpHeadIsLeftOut() {
        LentSectors x = Calls.withNothingFree();
        DUE.is("address(53, 1)", x.address(53, 1), 45);
        x.read(53);
        DUE.is("count(7)", x.count(7), 13 + 2);
        DUE.is("count(5)", x.count(5), 13);
        DUE.is("count(6)", x.count(6), 2);
    }

    static void promise04TheRescueStartsWhereTheArmStands() {
        LentSectors x = withLimit(2);
        x.read(37);
        DUE.is("count(7), 7 to 37 and 7 to 44", x.count(7), 14);
        x.read(37);
        DUE.is("count(7), 7 to 37, 7 to 44, 1 to 45", x.count(7), 14 + 15);
        DUE.is("count(5)", x.count(5), 13);
        DUE.is("count(6)", x.count(6), 2);
    }

    // "To look at an address: if the sector that serves it is not good, and a sector can be lent to it, this
    // is a rescue: the one that can be lent serves it from now on"

    static void promise04BelowTheLimitThereIsNoRescue() {
        LentSectors x = withLimit(3);
        readTimes(x, 0, 2);
        DUE.is("sector(0, 0)", x.sector(0, 0), 2);
        DUE.is("address(0, 1)", x.address(0, 1), 0);
        DUE.is("count(8)", x.count(8), 0);
    }

    static void promise04AtTheLimitThereIsARescue() {
        LentSectors x = withLimit(3);
        x.write(0, 7);
        DUE.is("read(0)", x.read(0), 7);
        DUE.is("sector(0, 0)", x.sector(0, 0), 3);
        DUE.is("address(0, 1)", x.address(0, 1), 12);
        DUE.is("address(0, 0)", x.address(0, 0), 7);
        DUE.is("address(0, 5)", x.address(0, 5), 1);
        DUE.is("count(8)", x.count(8), 1);
        DUE.is("sector(0, 3)", x.sector(0, 3), LentSectors.NONE);
        DUE.is("sector(12, 3)", x.sector(12, 3), 0);
    }

    static void promise04ABadSectorIsARescueTooIfOneCanBeLent() {
        LentSectors x = new LentSectors();
        x.write(48, 66);
        x.setLimit(6);
        DUE.is("read(48)", x.read(48), 66);
        DUE.is("sector(48, 1)", x.sector(48, 1), 2);
        DUE.is("address(48, 1)", x.address(48, 1), 60);
        DUE.is("address(48, 0)", x.address(48, 0), 66);
        DUE.is("count(9)", x.count(9), 0);
    }

    static void promise04TheRescuedSectorWearsAsByAWrite() {
        LentSectors x = withLimit(4);
        x.read(48);
        DUE.is("sector(60, 0)", x.sector(60, 0), 8);
        DUE.is("sector(48, 0)", x.sector(48, 0), 4);
        DUE.is("count(11)", x.count(11), 0);
        DUE.is("count(10)", x.count(10), 1);
    }

    static void promise04ARescuedAddressIsNotLookedAtAgain() {
        LentSectors x = withLimit(4);
        x.read(48);
        DUE.is("sector(60, 1)", x.sector(60, 1), 2);
        DUE.is("address(48, 1)", x.address(48, 1), 60);
        DUE.is("count(8)", x.count(8), 1);
        LentSectors y = withSpares(1, 1, 1, 1);
        y.setLimit(1);
        readTimes(y, 48, 4);
        DUE.is("address(48, 1), on the last one that was free", y.address(48, 1), 47);
        DUE.is("sector(47, 1)", y.sector(47, 1), 2);
    }

    static void promise04ASpareOneThatServedBeforeIsLentToNone() {
        LentSectors x = withLimit(4);
        readTimes(x, 48, 2);
        DUE.is("address(48, 1)", x.address(48, 1), 61);
        DUE.is("sector(60, 3)", x.sector(60, 3), LentSectors.NONE);
        DUE.is("sector(60, 4)", x.sector(60, 4), 0);
        x.setLimit(99);
        DUE.is("sector(60, 4), good again", x.sector(60, 4), 1);
        DUE.is("address(48, 3)", x.address(48, 3), 60);
    }

    static void promise04RescuesOfEachAddressAreCounted() {
        LentSectors x = withLimit(4);
        readTimes(x, 48, 3);
        x.read(49);
        DUE.is("address(48, 5)", x.address(48, 5), 3);
        DUE.is("address(49, 5)", x.address(49, 5), 1);
        DUE.is("address(50, 5)", x.address(50, 5), 0);
        DUE.is("count(8)", x.count(8), 4);
    }

    // "If no sector can be lent, and the one that serves it is bad, the address is lost (a spare one is lent
    // to none then); if it is weak, nothing happens."

    static void promise04AWeakSectorWithNothingToLendServesOn() {
        LentSectors x = Calls.withNothingFree();
        x.setLimit(5);
        x.write(0, 44);
        for (int wear = 3; wear <= 9; wear++) {
            DUE.is("read(0)", x.read(0), 44);
            DUE.is("sector(0, 0)", x.sector(0, 0), wear);
            DUE.is("address(0, 1) with wear " + wear, x.address(0, 1), 0);
        }
        DUE.is("sector(0, 1)", x.sector(0, 1), 1);
        DUE.is("count(8)", x.count(8), 0);
        DUE.is("count(9)", x.count(9), 0);
    }

    static void promise04ABadSectorWithNothingToLendLosesTheAddress() {
        LentSectors x = Calls.withNothingFree();
        x.setLimit(5);
        readTimes(x, 0, 9);
        DUE.is("address(0, 1) with wear 9", x.address(0, 1), 0);
        x.read(0);
        DUE.is("sector(0, 0)", x.sector(0, 0), 10);
        DUE.is("address(0, 1) with wear 10", x.address(0, 1), LentSectors.NONE);
        DUE.is("sector(0, 3)", x.sector(0, 3), LentSectors.NONE);
        DUE.is("count(2)", x.count(2), 1);
        DUE.is("count(9)", x.count(9), 1);
        DUE.is("count(7)", x.count(7), 0);
    }

    static void promise04ASpareOneThatLosesAnAddressIsLentToNone() {
        LentSectors x = Calls.withNothingFree();
        x.setLimit(5);
        readTimes(x, 48, 7);
        DUE.is("sector(12, 3) with wear 9", x.sector(12, 3), 48);
        x.read(48);
        DUE.is("address(48, 1)", x.address(48, 1), LentSectors.NONE);
        DUE.is("sector(12, 0)", x.sector(12, 0), 10);
        DUE.is("sector(12, 3)", x.sector(12, 3), LentSectors.NONE);
        DUE.is("sector(12, 4), bad", x.sector(12, 4), 0);
        x.setLimit(11);
        DUE.is("sector(12, 4), good again", x.sector(12, 4), 1);
    }

    static void promise04AWeakSectorIsLeftAsSoonAsOneCanBeLent() {
        LentSectors x = Calls.withOneSpareEach();
        x.setLimit(1);
        for (int address : new int[] {0, 16, 32, 48}) {
            x.read(address);
        }
        x.setLimit(3);
        readTimes(x, 2, 3);
        DUE.is("sector(2, 1)", x.sector(2, 1), 1);
        DUE.is("address(2, 1), nothing can be lent", x.address(2, 1), 2);
        DUE.is("giveBack(0)", x.giveBack(0), 15);
        DUE.is("address(2, 1), not looked at", x.address(2, 1), 2);
        x.read(2);
        DUE.is("address(2, 1), 15 can be lent", x.address(2, 1), 15);
    }

    static void promise04AnAddressThatIsLostTwiceIsCountedTwice() {
        LentSectors x = Calls.with0Lost();
        x.setLimit(5);
        DUE.is("write(0, 9)", x.write(0, 9), 15);
        readTimes(x, 0, 4);
        DUE.is("sector(15, 0)", x.sector(15, 0), 10);
        DUE.is("address(0, 1)", x.address(0, 1), LentSectors.NONE);
        DUE.is("count(2)", x.count(2), 1);
        DUE.is("count(9)", x.count(9), 2);
    }

    static void promise04TheGreatestLimitLosesAt1998() {
        LentSectors x = Calls.withNothingFree();
        x.setLimit(999);
        x.setHead(0, true, 9);
        readTimes(x, 0, 221);
        DUE.is("sector(0, 0)", x.sector(0, 0), 1989);
        DUE.is("sector(0, 1)", x.sector(0, 1), 1);
        DUE.is("address(0, 1)", x.address(0, 1), 0);
        x.read(0);
        DUE.is("sector(0, 0)", x.sector(0, 0), 1998);
        DUE.is("sector(0, 1)", x.sector(0, 1), 2);
        DUE.is("address(0, 1)", x.address(0, 1), LentSectors.NONE);
    }
}
