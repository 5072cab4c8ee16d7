import java.util.ArrayDeque;
import java.util.ArrayList;
import java.util.Comparator;
import java.util.Deque;
import java.util.List;
import java.util.Map;
import java.util.TreeMap;
import java.util.TreeSet;
import java.util.regex.Matcher;
import java.util.regex.Pattern;

/**
 * The document a second time, as plainly as it goes and built in another way than LentSectors:
 * with maps and whole copies of the state, and with a pattern for the texts.
 */
final class PlainSectors {
    private static final int UNKNOWN = -1;
    private static final int BAD_VALUE = -2;
    private static final int FULL = -3;
    private static final int NOT_POSSIBLE = -4;
    private static final int NONE = -5;

    private static final String SECTOR = "(?:[1-5][0-9]|6[0-3]|[0-9])";
    private static final String COMMAND = "(?:r" + SECTOR + "|w" + SECTOR + "=(?:0|[1-9][0-9]{0,2}))";
    private static final Pattern COMMANDS = Pattern.compile(COMMAND + "(?:;" + COMMAND + ")*", Pattern.DOTALL);

    private static final class State {
        int limit = 30;
        int[] ageing = {1, 2, 3, 4};
        int[] spares = {4, 4, 4, 4};
        TreeSet<Integer> givenUp = new TreeSet<>();
        int[] wear = new int[64];
        Map<Integer, Integer> values = new TreeMap<>();
        /** Only what is not as at first: an address and the spare sector that is lent to it. */
        Map<Integer, Integer> lent = new TreeMap<>();
        TreeSet<Integer> lost = new TreeSet<>();
        Map<Integer, Integer> rescues = new TreeMap<>();
        int place = 0;
        int head = 0;
        int steps = 0;
        int losses = 0;
        int reads = 0;
        int writes = 0;

        State copied() {
            State other = new State();
            other.limit = limit;
            other.ageing = ageing.clone();
            other.spares = spares.clone();
            other.givenUp = new TreeSet<>(givenUp);
            other.wear = wear.clone();
            other.values = new TreeMap<>(values);
            other.lent = new TreeMap<>(lent);
            other.lost = new TreeSet<>(lost);
            other.rescues = new TreeMap<>(rescues);
            other.place = place;
            other.head = head;
            other.steps = steps;
            other.losses = losses;
            other.reads = reads;
            other.writes = writes;
            return other;
        }

        boolean own(int sector) {
            return sector % 16 + spares[sector / 16] < 16;
        }

        List<Integer> addresses() {
            List<Integer> all = new ArrayList<>();
            for (int sector = 0; sector < 64; sector++) {
                if (own(sector)) {
                    all.add(sector);
                }
            }
            return all;
        }

        /** The sector that serves an address that is not lost. */
        int serving(int address) {
            return lent.getOrDefault(address, address);
        }

        int grade(int sector) {
            return wear[sector] < limit ? 0 : wear[sector] < 2 * limit ? 1 : 2;
        }

        List<Integer> free(int head) {
            List<Integer> all = new ArrayList<>();
            for (int sector = 16 * head; sector < 16 * head + 16; sector++) {
                if (!own(sector) && !lent.containsValue(sector) && grade(sector) == 0 && !givenUp.contains(head)) {
                    all.add(sector);
                }
            }
            return all;
        }

        int lendable(int address) {
            List<Integer> best = free(address / 16);
            if (best.isEmpty()) {
                for (int other = 3; other >= 0; other--) {
                    if (free(other).size() >= best.size()) {
                        best = free(other);
                    }
                }
            }
            return best.isEmpty() ? NONE : best.get(0);
        }

        void go(int sector) {
            steps += Math.abs(sector % 16 - place) + (sector / 16 == head ? 0 : 2);
            place = sector % 16;
            head = sector / 16;
        }

        void goToAddress(int address) {
            if (serving(address) != address && !givenUp.contains(address / 16)) {
                go(address);
            }
            go(serving(address));
        }

        void wearOut(int sector, int times) {
            wear[sector] += times * ageing[sector / 16];
        }

        void look(int address) {
            int grade = grade(serving(address));
            if (grade == 0) {
                return;
            }
            int next = lendable(address);
            if (next != NONE) {
                lent.put(address, next);
                go(next);
                wearOut(next, 2);
                rescues.merge(address, 1, Integer::sum);
            } else if (grade == 2) {
                lose(address);
            }
        }

        void lose(int address) {
            lent.remove(address);
            lost.add(address);
            losses++;
        }

        int read(int address) {
            if (!addresses().contains(address)) {
                return UNKNOWN;
            }
            if (lost.contains(address)) {
                return NOT_POSSIBLE;
            }
            int value = values.getOrDefault(address, 0);
            goToAddress(address);
            wearOut(serving(address), 1);
            reads++;
            look(address);
            return value;
        }

        int write(int address, int value) {
            if (!addresses().contains(address)) {
                return UNKNOWN;
            }
            if (value < 0 || value > 999) {
                return BAD_VALUE;
            }
            if (lost.contains(address)) {
                int next = lendable(address);
                if (next == NONE) {
                    return NOT_POSSIBLE;
                }
                lost.remove(address);
                lent.put(address, next);
            }
            goToAddress(address);
            wearOut(serving(address), 2);
            values.put(address, value);
            writes++;
            look(address);
            return lost.contains(address) ? 100 : serving(address);
        }

        int giveUp(int which) {
            int before = losses;
            givenUp.add(which);
            for (int address : addresses()) {
                if (!lost.contains(address) && serving(address) / 16 == which) {
                    int next = lendable(address);
                    if (next == NONE) {
                        lose(address);
                    } else {
                        lent.put(address, next);
                        wearOut(next, 2);
                    }
                }
            }
            return losses - before;
        }

        int rescuesSoFar() {
            int sum = 0;
            for (int many : rescues.values()) {
                sum += many;
            }
            return sum;
        }
    }

    private State now = new State();
    private State kept = null;
    private final Deque<State> history = new ArrayDeque<>();
    private String text = "";

    private int act(State next, int answer) {
        if (answer < 0) {
            return answer;
        }
        history.addLast(now);
        if (history.size() > 4) {
            history.removeFirst();
        }
        now = next;
        return answer;
    }

    int setLimit(int limit) {
        if (limit < 1 || limit > 999) {
            return BAD_VALUE;
        }
        if (limit == now.limit) {
            return NONE;
        }
        State next = now.copied();
        next.limit = limit;
        return act(next, now.limit);
    }

    int setHead(int head, boolean ageing, int value) {
        if (head < 0 || head > 3) {
            return UNKNOWN;
        }
        if (value < 1 || value > (ageing ? 9 : 6)) {
            return BAD_VALUE;
        }
        if (!ageing && (head(head, 7) > 0 || head(head, 3) == 1)) {
            return NOT_POSSIBLE;
        }
        State next = now.copied();
        int[] row = ageing ? next.ageing : next.spares;
        int previous = row[head];
        row[head] = value;
        return previous == value ? NONE : act(next, previous);
    }

    int read(int address) {
        State next = now.copied();
        return act(next, next.read(address));
    }

    int write(int address, int value) {
        State next = now.copied();
        return act(next, next.write(address, value));
    }

    int copy(int from, int to, int many) {
        if (!now.addresses().contains(from) || !now.addresses().contains(to)) {
            return UNKNOWN;
        }
        if (many < 1 || many > 16) {
            return BAD_VALUE;
        }
        State good = now;
        int copied = 0;
        while (copied < many) {
            State next = good.copied();
            int value = next.read(from + copied);
            if (value < 0 || next.write(to + copied, value) < 0) {
                break;
            }
            good = next;
            copied++;
        }
        return copied == 0 ? NONE : act(good, copied);
    }

    int test(int head) {
        if (head < 0 || head > 3) {
            return UNKNOWN;
        }
        State next = now.copied();
        int tested = 0;
        for (int address : next.addresses()) {
            if (address / 16 == head && !next.lost.contains(address)) {
                next.read(address);
                tested++;
            }
        }
        return tested == 0 ? NONE : act(next, next.rescuesSoFar() - now.rescuesSoFar());
    }

    int perform() {
        if (!COMMANDS.matcher(text).matches()) {
            int fault = text.length();
            while (!canBecomeCommands(text.substring(0, fault))) {
                fault--;
            }
            return -100 - fault;
        }
        State next = now.copied();
        String[] commands = text.split(";");
        for (String command : commands) {
            String[] numbers = command.substring(1).split("=");
            int sector = Integer.parseInt(numbers[0]);
            int answer = command.charAt(0) == 'r' ? next.read(sector) : next.write(sector, Integer.parseInt(numbers[1]));
            if (answer < 0) {
                return answer;
            }
        }
        return act(next, commands.length);
    }

    private static boolean canBecomeCommands(String start) {
        Matcher matcher = COMMANDS.matcher(start);
        return matcher.matches() || matcher.hitEnd();
    }

    int giveBack(int address) {
        if (!now.addresses().contains(address)) {
            return UNKNOWN;
        }
        Integer lent = now.lent.get(address);
        if (lent == null) {
            return NONE;
        }
        if (now.grade(address) != 0 || now.givenUp.contains(address / 16)) {
            return NOT_POSSIBLE;
        }
        State next = now.copied();
        next.goToAddress(address);
        next.go(address);
        next.wearOut(address, 2);
        next.lent.remove(address);
        return act(next, lent);
    }

    int giveUp(int head) {
        if (head < 0 || head > 3) {
            return UNKNOWN;
        }
        if (now.givenUp.contains(head)) {
            return NONE;
        }
        if (now.givenUp.size() == 3) {
            return NOT_POSSIBLE;
        }
        State next = now.copied();
        return act(next, next.giveUp(head));
    }

    int type(char character) {
        if (text.length() == 60) {
            return FULL;
        }
        text += character;
        return text.length();
    }

    int clearText() {
        int length = text.length();
        text = "";
        return length;
    }

    int undo() {
        if (history.isEmpty()) {
            return NONE;
        }
        now = history.removeLast();
        return history.size();
    }

    int keep() {
        kept = now;
        return now.steps;
    }

    int restore() {
        return kept == null ? NONE : act(kept, kept.steps);
    }

    int address(int address, int what) {
        if (!now.addresses().contains(address)) {
            return UNKNOWN;
        }
        if (what < 0 || what > 5) {
            return BAD_VALUE;
        }
        if (what == 3) {
            return now.lendable(address);
        }
        if (what == 5) {
            return now.rescues.getOrDefault(address, 0);
        }
        if (now.lost.contains(address)) {
            return what == 2 ? 0 : NONE;
        }
        if (what == 0) {
            return now.values.getOrDefault(address, 0);
        }
        if (what == 1) {
            return now.serving(address);
        }
        if (what == 2) {
            return now.lent.containsKey(address) ? 1 : 0;
        }
        State next = now.copied();
        next.goToAddress(address);
        return next.steps - now.steps;
    }

    int sector(int sector, int what) {
        if (sector < 0 || sector > 63) {
            return UNKNOWN;
        }
        switch (what) {
            case 0: return now.wear[sector];
            case 1: return now.grade(sector);
            case 2: return now.own(sector) ? 0 : 1;
            case 3:
                for (int address : now.addresses()) {
                    if (!now.lost.contains(address) && now.serving(address) == sector) {
                        return address;
                    }
                }
                return NONE;
            case 4: return now.free(sector / 16).contains(sector) ? 1 : 0;
            default: return BAD_VALUE;
        }
    }

    int head(int head, int what) {
        if (head < 0 || head > 3) {
            return UNKNOWN;
        }
        switch (what) {
            case 0: return now.ageing[head];
            case 1: return now.spares[head];
            case 2: return now.free(head).size();
            case 3: return now.givenUp.contains(head) ? 1 : 0;
            case 4: return (int) now.lent.entrySet().stream()
                .filter(e -> e.getValue() / 16 == head && e.getKey() / 16 != head).count();
            case 5: return (int) now.lent.entrySet().stream()
                .filter(e -> e.getValue() / 16 != head && e.getKey() / 16 == head).count();
            case 6: return (int) now.lost.stream().filter(a -> a / 16 == head).count();
            case 7: return sumOfSectors(head, -1);
            case 8: return sumOfSectors(head, 1);
            case 9: return sumOfSectors(head, 2);
            default: return BAD_VALUE;
        }
    }

    private int sumOfSectors(int head, int grade) {
        int sum = 0;
        for (int sector = 16 * head; sector < 16 * head + 16; sector++) {
            sum += grade < 0 ? now.wear[sector] : now.grade(sector) == grade ? 1 : 0;
        }
        return sum;
    }

    int readsLeft(int address) {
        if (!now.addresses().contains(address)) {
            return UNKNOWN;
        }
        if (now.lost.contains(address)) {
            return NOT_POSSIBLE;
        }
        State next = now.copied();
        for (int reads = 1; reads <= 2000; reads++) {
            next.read(address);
            if (next.lost.contains(address) || next.serving(address) != now.serving(address)) {
                return reads;
            }
        }
        return NONE;
    }

    int wouldLose(int head) {
        if (head < 0 || head > 3) {
            return UNKNOWN;
        }
        return now.givenUp.contains(head) ? NONE : now.copied().giveUp(head);
    }

    int worst(int rank) {
        if (rank < 0) {
            return BAD_VALUE;
        }
        List<Integer> ranked = new ArrayList<>(now.addresses());
        ranked.removeAll(now.lost);
        ranked.sort(Comparator.comparingInt(address -> -now.wear[now.serving(address)]));
        return rank < ranked.size() ? ranked.get(rank) : NONE;
    }

    int count(int what) {
        switch (what) {
            case 0: return now.limit;
            case 1: return now.addresses().size();
            case 2: return now.lost.size();
            case 3: return now.lent.size();
            case 4: return now.free(0).size() + now.free(1).size() + now.free(2).size() + now.free(3).size();
            case 5: return now.place;
            case 6: return now.head;
            case 7: return now.steps;
            case 8: return now.rescuesSoFar();
            case 9: return now.losses;
            case 10: return now.reads;
            case 11: return now.writes;
            case 12: return history.size();
            case 13: return text.length();
            default: return BAD_VALUE;
        }
    }
}
