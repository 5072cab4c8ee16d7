import java.util.Random;

/** Long runs of calls, the same each time, on LentSectors and on PlainSectors. */
public final class RandomRunsTest {
    /** What an object is promised for. */
    private static final int CALLS = 512;
    /** What the longest act takes: a text of 63 characters is typed, performed and cleared. */
    private static final int LONGEST_ACT = 65;
    private static final Due DUE = new Due("RandomRunsTest");

    private final int run;
    private final Random random;
    private final LentSectors x = new LentSectors();
    private final PlainSectors y = new PlainSectors();
    private final int favourite;
    private int calls = 0;

    private RandomRunsTest(int run) {
        this.run = run;
        this.random = new Random(run);
        this.favourite = random.nextInt(60);
    }

    public static void main(String[] args) {
        int runs = 400;
        for (int run = 0; run < runs; run++) {
            new RandomRunsTest(run).go();
        }
        DUE.end();
    }

    private void go() {
        if (random.nextInt(3) > 0) {
            int spares = 1 + random.nextInt(3);
            for (int head = 0; head < 4; head++) {
                setHead(head, false, spares);
            }
        }
        if (random.nextInt(3) > 0) {
            setLimit(1 + random.nextInt(random.nextBoolean() ? 6 : 30));
        }
        boolean telling = random.nextBoolean();
        while (calls <= CALLS - LONGEST_ACT) {
            if (telling && random.nextInt(3) > 0) {
                tell();
            } else {
                act();
            }
        }
        while (calls < CALLS) {
            tell();
        }
    }

    private void due(String call, long got, long want) {
        calls++;
        DUE.is("run " + run + ", call " + calls + ", " + call, got, want);
    }

    private int someAddress() {
        switch (random.nextInt(8)) {
            case 0: return random.nextInt(70) - 3;
            case 1: case 2: return random.nextInt(64);
            case 3: return 16 * random.nextInt(4) + random.nextInt(3);
            case 4: return 16 * random.nextInt(4) + 9 + random.nextInt(6);
            default: return Math.max(0, favourite - random.nextInt(4));
        }
    }

    private int oneOf(int below) {
        return random.nextInt(12) == 0 ? random.nextInt(below + 4) - 2 : random.nextInt(below);
    }

    private void setHead(int head, boolean ageing, int value) {
        due("setHead(" + head + ", " + ageing + ", " + value + ")", x.setHead(head, ageing, value), y.setHead(head, ageing, value));
    }

    private void setLimit(int limit) {
        due("setLimit(" + limit + ")", x.setLimit(limit), y.setLimit(limit));
    }

    private void act() {
        int a = someAddress();
        int b = someAddress();
        int h = oneOf(4);
        switch (random.nextInt(26)) {
            case 0: setLimit(random.nextInt(4) == 0 ? random.nextInt(1002) - 1 : random.nextInt(12)); break;
            case 1: setHead(h, random.nextBoolean(), oneOf(10)); break;
            case 2: case 3: case 4: case 5: case 6: case 7: case 8:
                due("read(" + a + ")", x.read(a), y.read(a)); break;
            case 9: case 10: case 11: case 12: case 13: case 14: {
                int value = random.nextInt(30) == 0 ? random.nextInt(1004) - 2 : random.nextInt(1000);
                due("write(" + a + ", " + value + ")", x.write(a, value), y.write(a, value)); break;
            }
            case 15: case 16: case 17: {
                int many = random.nextInt(random.nextBoolean() ? 4 : 18);
                due("copy(" + a + ", " + b + ", " + many + ")", x.copy(a, b, many), y.copy(a, b, many)); break;
            }
            case 18: due("test(" + h + ")", x.test(h), y.test(h)); break;
            case 19: case 20: due("giveBack(" + a + ")", x.giveBack(a), y.giveBack(a)); break;
            case 21: {
                int head = random.nextInt(6) == 0 ? h : 3;
                due("giveUp(" + head + ")", x.giveUp(head), y.giveUp(head)); break;
            }
            case 22: due("undo()", x.undo(), y.undo()); break;
            case 23: due("keep()", x.keep(), y.keep()); break;
            case 24: due("restore()", x.restore(), y.restore()); break;
            default: perform(); break;
        }
    }

    private void perform() {
        StringBuilder text = new StringBuilder();
        int commands = 1 + random.nextInt(random.nextInt(4) == 0 ? 20 : 4);
        for (int i = 0; i < commands; i++) {
            int sector = random.nextInt(6) == 0 ? random.nextInt(70) : Math.min(63, Math.max(0, someAddress()));
            text.append(i == 0 ? "" : ";");
            if (random.nextBoolean()) {
                text.append('r').append(sector);
            } else {
                text.append('w').append(sector).append('=').append(random.nextInt(random.nextInt(9) == 0 ? 1100 : 1000));
            }
        }
        String signs = "rw=;0123456789/:x ";
        if (random.nextInt(3) == 0) {
            text.setCharAt(random.nextInt(text.length()), signs.charAt(random.nextInt(signs.length())));
        }
        if (random.nextInt(4) == 0) {
            text.setLength(random.nextInt(text.length() + 1));
        }
        for (int i = 0; i < text.length() && i < 63; i++) {
            char sign = text.charAt(i);
            due("type(" + sign + ")", x.type(sign), y.type(sign));
        }
        due("perform() of " + text, x.perform(), y.perform());
        if (random.nextInt(4) > 0) {
            due("clearText()", x.clearText(), y.clearText());
        }
    }

    private void tell() {
        int a = someAddress();
        int h = oneOf(4);
        switch (random.nextInt(14)) {
            case 0: case 1: case 2: {
                int what = oneOf(6);
                due("address(" + a + ", " + what + ")", x.address(a, what), y.address(a, what)); break;
            }
            case 3: case 4: case 5: {
                int what = oneOf(5);
                due("sector(" + a + ", " + what + ")", x.sector(a, what), y.sector(a, what)); break;
            }
            case 6: case 7: case 8: {
                int what = oneOf(10);
                due("head(" + h + ", " + what + ")", x.head(h, what), y.head(h, what)); break;
            }
            case 9: due("readsLeft(" + a + ")", x.readsLeft(a), y.readsLeft(a)); break;
            case 10: due("wouldLose(" + h + ")", x.wouldLose(h), y.wouldLose(h)); break;
            case 11: {
                int rank = random.nextInt(4) == 0 ? random.nextInt(64) - 2 : random.nextInt(12);
                due("worst(" + rank + ")", x.worst(rank), y.worst(rank)); break;
            }
            default: {
                int what = oneOf(14);
                due("count(" + what + ")", x.count(what), y.count(what)); break;
            }
        }
    }
}
