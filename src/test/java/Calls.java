/** What several tests do with an object. */
final class Calls {
    private Calls() {
    }

    static final int[] NO_ADDRESSES = {-1, 12, 15, 28, 31, 44, 60, 63, 64, 100, Integer.MIN_VALUE, Integer.MAX_VALUE};
    static final int[] NO_HEADS = {-1, 4, 16, Integer.MIN_VALUE, Integer.MAX_VALUE};

    static void typeAll(LentSectors x, String text) {
        for (int i = 0; i < text.length(); i++) {
            x.type(text.charAt(i));
        }
    }

    /** Performs a text that is typed anew. */
    static int perform(LentSectors x, String text) {
        x.clearText();
        typeAll(x, text);
        return x.perform();
    }

    /** Heads with one spare sector each, so that they are soon used up. */
    static LentSectors withOneSpareEach() {
        LentSectors x = new LentSectors();
        for (int head = 0; head < 4; head++) {
            x.setHead(head, false, 1);
        }
        return x;
    }

    /** One that is much used: a full history, a snapshot, a text, a lent sector, wear. */
    static LentSectors used() {
        LentSectors x = new LentSectors();
        x.setLimit(4);
        x.write(20, 77);
        x.keep();
        x.setHead(2, false, 5);
        x.write(0, 5);
        x.write(1, 6);
        typeAll(x, "w2=3;r2");
        return x;
    }

    /** The same, in which 20 can be given back with a limit of 5 and more. */
    static LentSectors usedWithLimit(int limit) {
        LentSectors x = used();
        x.setLimit(limit);
        return x;
    }

    /** Head 3 is given up, and its addresses have all the spare sectors of the others: 12, 28, 44, 13, .. */
    static LentSectors withNothingFree() {
        LentSectors x = new LentSectors();
        x.giveUp(3);
        return x;
    }

    /** One spare sector each, worn out by address 0, which is lost then; the limit is 1. */
    static LentSectors with0Lost() {
        LentSectors x = withOneSpareEach();
        x.setLimit(1);
        for (int value = 1; value <= 5; value++) {
            x.write(0, value);
        }
        return x;
    }

    /** One spare sector each, of which 15 alone is good, with a wear of 4; 17 is lost; the limit is 5. */
    static LentSectors with17LostAnd15Free() {
        LentSectors x = withOneSpareEach();
        x.setLimit(1);
        for (int value = 1; value <= 5; value++) {
            x.write(17, value);
        }
        x.setLimit(5);
        return x;
    }

    /** All of the state that can be told by some 270 calls, but not how many are in the history. */
    static String state(LentSectors x) {
        StringBuilder told = new StringBuilder();
        for (int head = 0; head < 4; head++) {
            told.append(x.head(head, 0)).append(' ').append(x.head(head, 1)).append(' ').append(x.head(head, 3)).append('\n');
        }
        for (int sector = 0; sector < 64; sector++) {
            told.append(x.sector(sector, 0)).append(' ');
            if (x.sector(sector, 2) == 0) {
                told.append(x.address(sector, 0)).append(' ').append(x.address(sector, 1)).append('\n');
            }
        }
        for (int what = 0; what < 12; what++) {
            told.append(x.count(what)).append(' ');
        }
        return told.append(x.count(13)).toString();
    }
}
