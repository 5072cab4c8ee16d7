import java.util.function.Supplier;
import java.util.function.ToIntFunction;

/**
 * Calls that change nothing: those that return an error or NONE, and those that only tell. What is left
 * behind such a call is compared with what is left without it, in several objects, as one object
 * is used for 512 calls at most.
 */
final class Unchanged {
    private static final int VIEWS = 18;

    private final Due due;

    Unchanged(Due due) {
        this.due = due;
    }

    /** On a new object and on a used one. */
    void by(int answer, String call, ToIntFunction<LentSectors> made) {
        on(LentSectors::new, answer, call + " of a new object", made);
        on(Calls::used, answer, call + " of a used one", made);
    }

    void on(Supplier<LentSectors> objects, int answer, String call, ToIntFunction<LentSectors> made) {
        for (int view = 0; view < VIEWS; view++) {
            LentSectors x = objects.get();
            due.is(call, made.applyAsInt(x), answer);
            due.same(call + ", view " + view, view(x, view), view(objects.get(), view));
        }
    }

    /** The state, the states of the history, the snapshot, the text, and what the next act makes of it. */
    private static String view(LentSectors x, int view) {
        switch (view) {
            case 5: return then(x.restore(), x);
            case 6: return then(x.perform(), x);
            case 7: return x.clearText() + " " + x.perform() + " " + x.type('r') + " " + x.perform();
            case 8: return served(x);
            case 9: return then(x.setLimit(7), x);
            case 10: return then(x.setHead(1, true, 7), x);
            case 11: return then(x.setHead(3, false, 2), x);
            case 12: return then(x.write(40, 3), x);
            case 13: return then(x.copy(18, 33, 2), x);
            case 14: return then(x.test(2), x);
            case 15: return then(x.giveBack(20), x);
            case 16: return then(x.giveUp(2), x);
            case 17: return then(x.read(35), x);
            default: return undone(x, view);
        }
    }

    private static String then(int answer, LentSectors x) {
        return answer + "\n" + x.count(12) + "\n" + Calls.state(x);
    }

    private static String undone(LentSectors x, int times) {
        StringBuilder told = new StringBuilder().append(x.count(12));
        for (int i = 0; i < times; i++) {
            told.append(' ').append(x.undo());
        }
        return told.append('\n').append(Calls.state(x)).toString();
    }

    private static String served(LentSectors x) {
        StringBuilder told = new StringBuilder();
        for (int sector = 0; sector < 64; sector++) {
            told.append(x.sector(sector, 3)).append(' ').append(x.address(sector, 5)).append('\n');
        }
        return told.toString();
    }
}
