/** Promises 1 to 3: a new object, setLimit, setHead. */
public final class SettingsTest {
    private static final Due DUE = new Due("SettingsTest");

    public static void main(String[] args) {
        newObject();
        newSectors();
        limitIsSet();
        limitCountsAsItIs();
        ageingIsSet();
        sparesAreSet();
        sparesOfUsedHeads();
        DUE.end();
    }

    private static void newObject() {
        LentSectors x = new LentSectors();
        int[] counts = {30, 48, 0, 0, 16, 0, 0, 0, 0, 0, 0, 0, 0, 0};
        for (int what = 0; what < counts.length; what++) {
            DUE.is("1: count(" + what + ")", x.count(what), counts[what]);
        }
        for (int head = 0; head < 4; head++) {
            int[] told = {head + 1, 4, 4, 0, 0, 0, 0, 0, 0, 0};
            for (int what = 0; what < told.length; what++) {
                DUE.is("1: head(" + head + ", " + what + ")", x.head(head, what), told[what]);
            }
        }
        DUE.is("1: undo()", x.undo(), LentSectors.NONE);
        DUE.is("1: restore()", x.restore(), LentSectors.NONE);
        DUE.is("1: perform()", x.perform(), -100);
        DUE.is("1: clearText()", x.clearText(), 0);
        DUE.is("1: keep()", x.keep(), 0);
    }

    private static void newSectors() {
        LentSectors x = new LentSectors();
        for (int sector = 0; sector < 64; sector++) {
            boolean spare = sector % 16 >= 12;
            DUE.is("1: sector(" + sector + ", 0)", x.sector(sector, 0), 0);
            DUE.is("1: sector(" + sector + ", 1)", x.sector(sector, 1), 0);
            DUE.is("1: sector(" + sector + ", 2)", x.sector(sector, 2), spare ? 1 : 0);
            DUE.is("1: sector(" + sector + ", 3)", x.sector(sector, 3), spare ? LentSectors.NONE : sector);
            DUE.is("1: sector(" + sector + ", 4)", x.sector(sector, 4), spare ? 1 : 0);
            DUE.is("1: address(" + sector + ", 0)", x.address(sector, 0), spare ? LentSectors.UNKNOWN : 0);
            DUE.is("1: address(" + sector + ", 1)", x.address(sector, 1), spare ? LentSectors.UNKNOWN : sector);
        }
    }

    private static void limitIsSet() {
        LentSectors x = new LentSectors();
        for (int limit : new int[] {0, -1, 1000, Integer.MIN_VALUE, Integer.MAX_VALUE}) {
            DUE.is("2: setLimit(" + limit + ")", x.setLimit(limit), LentSectors.BAD_VALUE);
        }
        DUE.is("2: setLimit(30)", x.setLimit(30), LentSectors.NONE);
        DUE.is("2: count(12)", x.count(12), 0);
        DUE.is("2: setLimit(1)", x.setLimit(1), 30);
        DUE.is("2: setLimit(1)", x.setLimit(1), LentSectors.NONE);
        DUE.is("2: setLimit(999)", x.setLimit(999), 1);
        DUE.is("2: count(0)", x.count(0), 999);
        DUE.is("2: count(12)", x.count(12), 2);
        DUE.is("2: undo()", x.undo(), 1);
        DUE.is("2: count(0)", x.count(0), 1);
    }

    private static void limitCountsAsItIs() {
        LentSectors x = new LentSectors();
        x.read(48);
        int[][] gradeByLimit = {{5, 0}, {4, 1}, {3, 1}, {2, 2}, {1, 2}, {999, 0}};
        for (int[] row : gradeByLimit) {
            x.setLimit(row[0]);
            DUE.is("2: sector(48, 1) with limit " + row[0], x.sector(48, 1), row[1]);
        }
        DUE.is("2: sector(48, 0)", x.sector(48, 0), 4);
        DUE.is("2: address(48, 1), which is not looked at", x.address(48, 1), 48);
    }

    private static void ageingIsSet() {
        LentSectors x = new LentSectors();
        for (int head : Calls.NO_HEADS) {
            DUE.is("3: setHead(" + head + ", true, 5)", x.setHead(head, true, 5), LentSectors.UNKNOWN);
            DUE.is("3: setHead(" + head + ", false, 0)", x.setHead(head, false, 0), LentSectors.UNKNOWN);
        }
        for (int value : new int[] {0, 10, -1, Integer.MIN_VALUE, Integer.MAX_VALUE}) {
            DUE.is("3: setHead(0, true, " + value + ")", x.setHead(0, true, value), LentSectors.BAD_VALUE);
        }
        DUE.is("3: setHead(0, true, 1)", x.setHead(0, true, 1), LentSectors.NONE);
        DUE.is("3: count(12)", x.count(12), 0);
        DUE.is("3: setHead(0, true, 9)", x.setHead(0, true, 9), 1);
        DUE.is("3: setHead(3, true, 1)", x.setHead(3, true, 1), 4);
        DUE.is("3: setHead(3, true, 7)", x.setHead(3, true, 7), 1);
        DUE.is("3: count(12)", x.count(12), 3);
        DUE.is("3: head(0, 0)", x.head(0, 0), 9);
        DUE.is("3: head(0, 1)", x.head(0, 1), 4);
        x.read(0);
        x.write(1, 3);
        x.read(48);
        DUE.is("3: sector(0, 0)", x.sector(0, 0), 9);
        DUE.is("3: sector(1, 0)", x.sector(1, 0), 18);
        DUE.is("3: sector(48, 0)", x.sector(48, 0), 7);
        DUE.is("3: setHead(0, true, 2), of a used head", x.setHead(0, true, 2), 9);
        DUE.is("3: sector(1, 0)", x.sector(1, 0), 18);
    }

    private static void sparesAreSet() {
        LentSectors x = new LentSectors();
        for (int value : new int[] {0, 7, 9, -1, Integer.MIN_VALUE, Integer.MAX_VALUE}) {
            DUE.is("3: setHead(1, false, " + value + ")", x.setHead(1, false, value), LentSectors.BAD_VALUE);
        }
        DUE.is("3: setHead(1, false, 4)", x.setHead(1, false, 4), LentSectors.NONE);
        DUE.is("3: setHead(1, false, 6)", x.setHead(1, false, 6), 4);
        DUE.is("3: count(1)", x.count(1), 46);
        DUE.is("3: count(4)", x.count(4), 18);
        DUE.is("3: address(25, 1)", x.address(25, 1), 25);
        DUE.is("3: address(26, 0)", x.address(26, 0), LentSectors.UNKNOWN);
        DUE.is("3: read(26)", x.read(26), LentSectors.UNKNOWN);
        DUE.is("3: sector(26, 2)", x.sector(26, 2), 1);
        DUE.is("3: sector(26, 3)", x.sector(26, 3), LentSectors.NONE);
        DUE.is("3: sector(26, 4)", x.sector(26, 4), 1);
        DUE.is("3: address(16, 3)", x.address(16, 3), 26);
        DUE.is("3: setHead(1, false, 1)", x.setHead(1, false, 1), 6);
        DUE.is("3: count(1)", x.count(1), 51);
        DUE.is("3: head(1, 0)", x.head(1, 0), 2);
        DUE.is("3: head(1, 2)", x.head(1, 2), 1);
        DUE.is("3: address(30, 0)", x.address(30, 0), 0);
        DUE.is("3: address(30, 1)", x.address(30, 1), 30);
        DUE.is("3: sector(30, 3)", x.sector(30, 3), 30);
        DUE.is("3: sector(31, 2)", x.sector(31, 2), 1);
        DUE.is("3: address(31, 0)", x.address(31, 0), LentSectors.UNKNOWN);
        DUE.is("3: undo()", x.undo(), 1);
        DUE.is("3: address(30, 0)", x.address(30, 0), LentSectors.UNKNOWN);
        DUE.is("3: write(25, 8)", x.write(25, 8), 25);
    }

    private static void sparesOfUsedHeads() {
        LentSectors x = new LentSectors();
        x.read(16);
        DUE.is("3: setHead(1, false, 3)", x.setHead(1, false, 3), LentSectors.NOT_POSSIBLE);
        DUE.is("3: setHead(1, false, 4)", x.setHead(1, false, 4), LentSectors.NOT_POSSIBLE);
        DUE.is("3: setHead(1, false, 7)", x.setHead(1, false, 7), LentSectors.BAD_VALUE);
        DUE.is("3: undo()", x.undo(), 0);
        DUE.is("3: setHead(1, false, 3)", x.setHead(1, false, 3), 4);
        DUE.is("3: giveUp(2), 12 addresses for 11 spare ones", x.giveUp(2), 1);
        DUE.is("3: head(2, 7)", x.head(2, 7), 0);
        DUE.is("3: setHead(2, false, 3), given up", x.setHead(2, false, 3), LentSectors.NOT_POSSIBLE);
        DUE.is("3: setHead(2, false, 4), given up", x.setHead(2, false, 4), LentSectors.NOT_POSSIBLE);
        DUE.is("3: setHead(2, true, 5), given up", x.setHead(2, true, 5), 3);
        DUE.is("3: setHead(0, false, 3), a spare one worn", x.setHead(0, false, 3), LentSectors.NOT_POSSIBLE);
        DUE.is("3: head(0, 1)", x.head(0, 1), 4);

        LentSectors y = new LentSectors();
        y.read(11);
        DUE.is("3: head(0, 7), the least wear", y.head(0, 7), 1);
        DUE.is("3: setHead(0, false, 3)", y.setHead(0, false, 3), LentSectors.NOT_POSSIBLE);
    }
}
