/** What several tests do with an object. */
final class Calls {
    private Calls() {
    }

    static final int[] NO_ADDRESSES = {-1, 12, 15, 28, 31, 44, 60, 63, 64, 100, Integer.MIN_VALUE, Integer.MAX_VALUE};
    static final int[] NO_HEADS = {-1, 4, 16, Integer.MIN_VALUE, Integer.MAX_VALUE};

    static void typeAll(LentSectors x, String text) {
        for (int i = 0; i < text.length(); i++) {
            x.type(text.charAt(i));
        }
    }

    /** Performs a text that is typed anew. */
    static int perform(LentSectors x, String text) {
        x.clearText();
        typeAll(x, text);
        return x.perform();
    }

    /** Heads with one spare sector each, so that they are soon used up. */
    static LentSectors withOneSpareEach() {
        LentSectors x = new LentSectors();
        for (int head = 0; head < 4; head++) {
            x.setHead(head, false, 1);
        }
        return x;
    }

    /** All of the state that can be told by some 270 calls, but not how many are in the history. */
    static String state(LentSectors x) {
        StringBuilder told = new StringBuilder();
        for (int head = 0; head < 4; head++) {
            told.append(x.head(head, 0)).append(' ').append(x.head(head, 1)).append(' ').append(x.head(head, 3)).append('\n');
        }
        for (int sector = 0; sector < 64; sector++) {
            told.append(x.sector(sector, 0)).append(' ');
            if (x.sector(sector, 2) == 0) {
                told.append(x.address(sector, 0)).append(' ').append(x.address(sector, 1)).append('\n');
            }
        }
        for (int what = 0; what < 12; what++) {
            told.append(x.count(what)).append(' ');
        }
        return told.append(x.count(13)).toString();
    }
}
