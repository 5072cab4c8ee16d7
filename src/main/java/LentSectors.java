/**
 * Sectors of four heads that go bad, and spare ones that are lent for them.
 *
 * <p>Every act is first tried on a copy of the state, which is taken over only if the act returns
 * no error and not NONE: so a call that fails changes nothing, however far it had come.
 */
public final class LentSectors {
    /** There is no such head, sector or address. */
    public static final int UNKNOWN = -1;
    /** Another argument is out of range. */
    public static final int BAD_VALUE = -2;
    /** There is no more room. */
    public static final int FULL = -3;
    /** This is not possible. */
    public static final int NOT_POSSIBLE = -4;
    /** There is no such thing; not an error. */
    public static final int NONE = -5;

    private static final int HEADS = 4;
    private static final int PLACES = 16;
    private static final int SECTORS = HEADS * PLACES;
    private static final int MOST_SPARES = 6;
    private static final int FIRST_SPARES = 4;
    private static final int MOST_AGEING = 9;
    private static final int MOST_LIMIT = 999;
    private static final int FIRST_LIMIT = 30;
    private static final int MOST_VALUE = 999;
    private static final int STEPS_TO_OTHER_HEAD = 2;
    private static final int ANSWER_IF_LOST = 100;
    private static final int MOST_COPIES = 16;
    private static final int MOST_READS = 2000;
    private static final int TEXT_ROOM = 60;
    /** As many as 60 characters hold: each takes two at least, and one more stands between two. */
    private static final int MOST_COMMANDS = 20;
    private static final int FAULT_ANSWER = -100;
    private static final int HISTORY_ROOM = 4;

    private final Heads now = new Heads();
    private final Heads trial = new Heads();
    private final Heads kept = new Heads();
    private final History history = new History();
    private final CommandText text = new CommandText();
    private boolean hasKept = false;

    /** Creates heads without wear. */
    public LentSectors() {
    }

    // ---- settings

    /** Sets the limit; returns the previous one. */
    public int setLimit(int limit) {
        startTrial();
        return settle(trial.changeLimit(limit));
    }

    /** Sets the ageing of a head, or how many of its sectors are spare; returns the previous number. */
    public int setHead(int head, boolean ageing, int value) {
        if (!isHead(head)) {
            return UNKNOWN;
        }
        startTrial();
        return settle(ageing ? trial.changeAgeing(head, value) : trial.changeSpares(head, value));
    }

    // ---- reading, writing

    /** Reads an address; returns its value. */
    public int read(int address) {
        startTrial();
        return settle(trial.readAt(address));
    }

    /** Writes an address; returns the sector that serves it then, 100 if it is lost then. */
    public int write(int address, int value) {
        startTrial();
        return settle(trial.writeAt(address, value));
    }

    /** Copies values, one address after the other; returns how many are copied. */
    public int copy(int from, int to, int many) {
        if (!now.isAddress(from) || !now.isAddress(to)) {
            return UNKNOWN;
        }
        if (many < 1 || many > MOST_COPIES) {
            return BAD_VALUE;
        }
        startTrial();
        int copied = trial.copyRow(from, to, many);
        if (copied == 0) {
            return NONE;
        }
        if (copied < many) {
            // The pair that was not possible may have left its read behind in the trial.
            startTrial();
            trial.copyRow(from, to, copied);
        }
        return settle(copied);
    }

    /** Reads each address of a head that is not lost; returns how many rescues there are by that. */
    public int test(int head) {
        if (!isHead(head)) {
            return UNKNOWN;
        }
        startTrial();
        return settle(trial.testHead(head));
    }

    /** Does all the commands of the text, or none; returns how many there are. */
    public int perform() {
        int fault = text.parse();
        if (fault != NONE) {
            return FAULT_ANSWER - fault;
        }
        startTrial();
        for (int command = 0; command < text.commandCount(); command++) {
            int sector = text.commandSector(command);
            int value = text.commandValue(command);
            int answer = value == NONE ? trial.readAt(sector) : trial.writeAt(sector, value);
            if (answer < 0) {
                return answer;
            }
        }
        return settle(text.commandCount());
    }

    // ---- giving back, giving up

    /** Gives back what is lent to an address; returns the sector that was lent to it. */
    public int giveBack(int address) {
        startTrial();
        return settle(trial.giveBackAt(address));
    }

    /** Gives up a head; returns how many addresses are lost by that. */
    public int giveUp(int head) {
        if (!isHead(head)) {
            return UNKNOWN;
        }
        if (now.othersAreGivenUp(head)) {
            return NOT_POSSIBLE;
        }
        if (now.isGivenUp(head)) {
            return NONE;
        }
        startTrial();
        return settle(trial.vacate(head));
    }

    // ---- texts

    /** Types a character behind the text; returns the length of the text then. */
    public int type(char character) {
        return text.append(character);
    }

    /** Empties the text; returns the length that it had. */
    public int clearText() {
        return text.empty();
    }

    // ---- history

    /** Removes and restores the latest state of the history; returns how many are left. */
    public int undo() {
        if (history.states() == 0) {
            return NONE;
        }
        history.takeBack(now);
        return history.states();
    }

    /** Takes a snapshot of the state; returns the steps so far. */
    public int keep() {
        kept.takeOver(now);
        hasKept = true;
        return now.stepsSoFar();
    }

    /** Restores the state of the snapshot; returns the steps so far then. */
    public int restore() {
        if (!hasKept) {
            return NONE;
        }
        trial.takeOver(kept);
        return settle(trial.stepsSoFar());
    }

    // ---- what is told

    /** Tells a number of an address. */
    public int address(int address, int what) {
        return now.isAddress(address) ? now.tellAddress(address, what) : UNKNOWN;
    }

    /** Tells a number of a sector. */
    public int sector(int sector, int what) {
        return isSector(sector) ? now.tellSector(sector, what) : UNKNOWN;
    }

    /** Tells a number of a head. */
    public int head(int head, int what) {
        return isHead(head) ? now.tellHead(head, what) : UNKNOWN;
    }

    /** Tells how often an address can be read until another sector serves it, or it is lost. */
    public int readsLeft(int address) {
        return now.readsUntilChange(address);
    }

    /** Tells how many addresses would be lost if a head was given up now. */
    public int wouldLose(int head) {
        if (!isHead(head)) {
            return UNKNOWN;
        }
        if (now.isGivenUp(head)) {
            return NONE;
        }
        startTrial();
        return trial.vacate(head);
    }

    /** Tells the address of a rank by the wear of the sectors that serve them, the greatest first. */
    public int worst(int rank) {
        return rank < 0 ? BAD_VALUE : now.addressOfRank(rank);
    }

    /** Tells a number of the whole. */
    public int count(int what) {
        switch (what) {
            case 12: return history.states();
            case 13: return text.length();
            default: return now.tellWhole(what);
        }
    }

    private void startTrial() {
        trial.takeOver(now);
    }

    /** Ends an act that was tried: errors and NONE are negative, and leave the state as it was. */
    private int settle(int answer) {
        if (answer >= 0) {
            history.record(now);
            now.takeOver(trial);
        }
        return answer;
    }

    private static boolean isHead(int head) {
        return head >= 0 && head < HEADS;
    }

    private static boolean isSector(int sector) {
        return sector >= 0 && sector < SECTORS;
    }

    private static int headOf(int sector) {
        return sector / PLACES;
    }

    private static int placeOf(int sector) {
        return sector % PLACES;
    }

    private static int stepsBetween(int from, int to) {
        int along = Math.abs(placeOf(from) - placeOf(to));
        return headOf(from) == headOf(to) ? along : along + STEPS_TO_OTHER_HEAD;
    }

    /** A state: all but the text, the history and the snapshot. */
    private static final class Heads {
        private static final int GOOD = 0;
        private static final int WEAK = 1;
        private static final int BAD = 2;
        // What is asked of a head, and of all heads too.
        private static final int SPARE_ONES = 1;
        private static final int FREE_ONES = 2;
        private static final int LOST_ONES = 6;

        private int limit = FIRST_LIMIT;
        private final int[] ageing = new int[HEADS];
        private final int[] spares = new int[HEADS];
        private final boolean[] givenUp = new boolean[HEADS];
        private final int[] wear = new int[SECTORS];
        private final int[] value = new int[SECTORS];
        private final int[] rescuesOf = new int[SECTORS];
        /** The sector that serves an address; NONE if it is lost. */
        private final int[] server = new int[SECTORS];
        /** The address that a sector serves; NONE if it serves none. */
        private final int[] client = new int[SECTORS];
        /** The sector at whose place the arm stands with its head chosen. */
        private int arm = 0;
        private int steps = 0;
        private int rescues = 0;
        private int losses = 0;
        private int reads = 0;
        private int writes = 0;

        Heads() {
            for (int head = 0; head < HEADS; head++) {
                ageing[head] = head + 1;
                divide(head, FIRST_SPARES);
            }
        }

        void takeOver(Heads other) {
            limit = other.limit;
            System.arraycopy(other.ageing, 0, ageing, 0, HEADS);
            System.arraycopy(other.spares, 0, spares, 0, HEADS);
            System.arraycopy(other.givenUp, 0, givenUp, 0, HEADS);
            System.arraycopy(other.wear, 0, wear, 0, SECTORS);
            System.arraycopy(other.value, 0, value, 0, SECTORS);
            System.arraycopy(other.rescuesOf, 0, rescuesOf, 0, SECTORS);
            System.arraycopy(other.server, 0, server, 0, SECTORS);
            System.arraycopy(other.client, 0, client, 0, SECTORS);
            arm = other.arm;
            steps = other.steps;
            rescues = other.rescues;
            losses = other.losses;
            reads = other.reads;
            writes = other.writes;
        }

        /** Divides a head's sectors anew; only for a head none of whose addresses was ever used. */
        private void divide(int head, int spareOnes) {
            spares[head] = spareOnes;
            for (int place = 0; place < PLACES; place++) {
                int sector = head * PLACES + place;
                int served = isAddress(sector) ? sector : NONE;
                server[sector] = served;
                client[sector] = served;
            }
        }

        // What is so now.

        boolean isAddress(int number) {
            return isSector(number) && placeOf(number) < PLACES - spares[headOf(number)];
        }

        boolean isGivenUp(int head) {
            return givenUp[head];
        }

        boolean othersAreGivenUp(int head) {
            for (int other = 0; other < HEADS; other++) {
                if (other != head && !givenUp[other]) {
                    return false;
                }
            }
            return true;
        }

        int stepsSoFar() {
            return steps;
        }

        private boolean isLost(int address) {
            return server[address] == NONE;
        }

        private boolean isLongWay(int address) {
            return !isLost(address) && server[address] != address;
        }

        private boolean isGood(int sector) {
            return wear[sector] < limit;
        }

        private boolean isBad(int sector) {
            return wear[sector] >= 2 * limit;
        }

        private int gradeOf(int sector) {
            if (isGood(sector)) {
                return GOOD;
            }
            return isBad(sector) ? BAD : WEAK;
        }

        private boolean isFree(int sector) {
            int head = headOf(sector);
            boolean spare = placeOf(sector) >= PLACES - spares[head];
            return spare && client[sector] == NONE && isGood(sector) && !givenUp[head];
        }

        private int freeOf(int head) {
            int free = 0;
            for (int place = 0; place < PLACES; place++) {
                if (isFree(head * PLACES + place)) {
                    free++;
                }
            }
            return free;
        }

        private int firstFreeOf(int head) {
            for (int place = 0; place < PLACES; place++) {
                if (isFree(head * PLACES + place)) {
                    return head * PLACES + place;
                }
            }
            return NONE;
        }

        /** The sector that can be lent to an address; NONE if there is none. */
        private int lendableTo(int address) {
            int ofOwnHead = firstFreeOf(headOf(address));
            if (ofOwnHead != NONE) {
                return ofOwnHead;
            }
            int richest = 0;
            int most = 0;
            for (int head = 0; head < HEADS; head++) {
                int free = freeOf(head);
                if (free > most) {
                    richest = head;
                    most = free;
                }
            }
            return firstFreeOf(richest);
        }

        /** The steps that it takes the arm to go to an address that is not lost. */
        private int stepsTo(int address) {
            int serving = server[address];
            if (serving == address || givenUp[headOf(address)]) {
                return stepsBetween(arm, serving);
            }
            return stepsBetween(arm, address) + stepsBetween(address, serving);
        }

        // Settings.

        int changeLimit(int newLimit) {
            if (newLimit < 1 || newLimit > MOST_LIMIT) {
                return BAD_VALUE;
            }
            int previous = limit;
            limit = newLimit;
            return previous == newLimit ? NONE : previous;
        }

        int changeAgeing(int head, int newAgeing) {
            if (newAgeing < 1 || newAgeing > MOST_AGEING) {
                return BAD_VALUE;
            }
            int previous = ageing[head];
            ageing[head] = newAgeing;
            return previous == newAgeing ? NONE : previous;
        }

        int changeSpares(int head, int newSpares) {
            if (newSpares < 1 || newSpares > MOST_SPARES) {
                return BAD_VALUE;
            }
            // Whatever an address or a spare sector goes through leaves wear on this head, or the
            // head is given up: without both, all is as at first, and can be divided anew.
            if (wearOf(head) > 0 || givenUp[head]) {
                return NOT_POSSIBLE;
            }
            int previous = spares[head];
            if (previous == newSpares) {
                return NONE;
            }
            divide(head, newSpares);
            return previous;
        }

        // Reading and writing.

        /** Reads an address; the value is its value ahead of what the look at it does. */
        int readAt(int address) {
            if (!isAddress(address)) {
                return UNKNOWN;
            }
            if (isLost(address)) {
                return NOT_POSSIBLE;
            }
            goTo(address);
            wearByReading(server[address]);
            reads++;
            lookAt(address);
            return value[address];
        }

        int writeAt(int address, int newValue) {
            if (!isAddress(address)) {
                return UNKNOWN;
            }
            if (newValue < 0 || newValue > MOST_VALUE) {
                return BAD_VALUE;
            }
            if (isLost(address)) {
                int lent = lendableTo(address);
                if (lent == NONE) {
                    return NOT_POSSIBLE;
                }
                lend(address, lent);
            }
            goTo(address);
            wearByWriting(server[address]);
            value[address] = newValue;
            writes++;
            lookAt(address);
            return isLost(address) ? ANSWER_IF_LOST : server[address];
        }

        /** Copies pairs until one is not possible; what that one had read stays read. */
        int copyRow(int from, int to, int many) {
            for (int pair = 0; pair < many; pair++) {
                int copied = readAt(from + pair);
                if (copied < 0 || writeAt(to + pair, copied) < 0) {
                    return pair;
                }
            }
            return many;
        }

        int testHead(int head) {
            if (lostOf(head) == PLACES - spares[head]) {
                return NONE;
            }
            int rescuesBefore = rescues;
            for (int place = 0; place < PLACES - spares[head]; place++) {
                // One that is lost refuses the read, and nothing happens.
                readAt(head * PLACES + place);
            }
            return rescues - rescuesBefore;
        }

        private void lookAt(int address) {
            int serving = server[address];
            if (isGood(serving)) {
                return;
            }
            int lent = lendableTo(address);
            if (lent != NONE) {
                lend(address, lent);
                moveTo(lent);
                wearByWriting(lent);
                rescues++;
                rescuesOf[address]++;
            } else if (isBad(serving)) {
                lose(address);
            }
        }

        private void lend(int address, int sector) {
            release(address);
            server[address] = sector;
            client[sector] = address;
        }

        private void lose(int address) {
            release(address);
            losses++;
        }

        private void release(int address) {
            if (!isLost(address)) {
                client[server[address]] = NONE;
            }
            server[address] = NONE;
        }

        private void wearByReading(int sector) {
            wear[sector] += ageing[headOf(sector)];
        }

        private void wearByWriting(int sector) {
            wear[sector] += 2 * ageing[headOf(sector)];
        }

        private void goTo(int address) {
            steps += stepsTo(address);
            arm = server[address];
        }

        private void moveTo(int sector) {
            steps += stepsBetween(arm, sector);
            arm = sector;
        }

        // Giving back and giving up.

        int giveBackAt(int address) {
            if (!isAddress(address)) {
                return UNKNOWN;
            }
            if (!isLongWay(address)) {
                return NONE;
            }
            if (!isGood(address) || givenUp[headOf(address)]) {
                return NOT_POSSIBLE;
            }
            int lent = server[address];
            goTo(address);
            moveTo(address);
            wearByWriting(address);
            lend(address, address);
            return lent;
        }

        /** Gives up a head, whatever the others are; returns how many addresses are lost by that. */
        int vacate(int head) {
            int lossesBefore = losses;
            givenUp[head] = true;
            for (int address = 0; address < SECTORS; address++) {
                if (isAddress(address) && !isLost(address) && headOf(server[address]) == head) {
                    moveAway(address);
                }
            }
            return losses - lossesBefore;
        }

        private void moveAway(int address) {
            int lent = lendableTo(address);
            if (lent == NONE) {
                lose(address);
            } else {
                lend(address, lent);
                wearByWriting(lent);
            }
        }

        // What is told.

        int tellAddress(int address, int what) {
            switch (what) {
                case 0: return isLost(address) ? NONE : value[address];
                case 1: return server[address];
                case 2: return isLongWay(address) ? 1 : 0;
                case 3: return lendableTo(address);
                case 4: return isLost(address) ? NONE : stepsTo(address);
                case 5: return rescuesOf[address];
                default: return BAD_VALUE;
            }
        }

        int tellSector(int sector, int what) {
            switch (what) {
                case 0: return wear[sector];
                case 1: return gradeOf(sector);
                case 2: return isAddress(sector) ? 0 : 1;
                case 3: return client[sector];
                case 4: return isFree(sector) ? 1 : 0;
                default: return BAD_VALUE;
            }
        }

        int tellHead(int head, int what) {
            switch (what) {
                case 0: return ageing[head];
                case SPARE_ONES: return spares[head];
                case FREE_ONES: return freeOf(head);
                case 3: return givenUp[head] ? 1 : 0;
                case 4: return leadingElsewhere(client, head);
                case 5: return leadingElsewhere(server, head);
                case LOST_ONES: return lostOf(head);
                case 7: return wearOf(head);
                case 8: return gradedOf(head, WEAK);
                case 9: return gradedOf(head, BAD);
                default: return BAD_VALUE;
            }
        }

        int tellWhole(int what) {
            switch (what) {
                case 0: return limit;
                case 1: return SECTORS - overHeads(SPARE_ONES);
                case 2: return overHeads(LOST_ONES);
                case 3: return longWayCount();
                case 4: return overHeads(FREE_ONES);
                case 5: return placeOf(arm);
                case 6: return headOf(arm);
                case 7: return steps;
                case 8: return rescues;
                case 9: return losses;
                case 10: return reads;
                case 11: return writes;
                default: return BAD_VALUE;
            }
        }

        int readsUntilChange(int address) {
            if (!isAddress(address)) {
                return UNKNOWN;
            }
            if (isLost(address)) {
                return NOT_POSSIBLE;
            }
            int serving = server[address];
            int enough = lendableTo(address) != NONE ? limit : 2 * limit;
            int wearThen = wear[serving];
            for (int done = 1; done <= MOST_READS; done++) {
                wearThen += ageing[headOf(serving)];
                if (wearThen >= enough) {
                    return done;
                }
            }
            return NONE;
        }

        int addressOfRank(int rank) {
            for (int address = 0; address < SECTORS; address++) {
                if (hasRank(address) && rankOf(address) == rank) {
                    return address;
                }
            }
            return NONE;
        }

        private boolean hasRank(int address) {
            return isAddress(address) && !isLost(address);
        }

        private int rankOf(int address) {
            int wearHere = wear[server[address]];
            int ahead = 0;
            for (int other = 0; other < SECTORS; other++) {
                if (hasRank(other)) {
                    int wearThere = wear[server[other]];
                    if (wearThere > wearHere || (wearThere == wearHere && other < address)) {
                        ahead++;
                    }
                }
            }
            return ahead;
        }

        /** How many entries of a head lead to other heads, in the table of servers or of clients. */
        private int leadingElsewhere(int[] table, int head) {
            int many = 0;
            for (int place = 0; place < PLACES; place++) {
                int other = table[head * PLACES + place];
                if (other != NONE && headOf(other) != head) {
                    many++;
                }
            }
            return many;
        }

        private int lostOf(int head) {
            int many = 0;
            for (int place = 0; place < PLACES - spares[head]; place++) {
                if (isLost(head * PLACES + place)) {
                    many++;
                }
            }
            return many;
        }

        private int wearOf(int head) {
            int sum = 0;
            for (int place = 0; place < PLACES; place++) {
                sum += wear[head * PLACES + place];
            }
            return sum;
        }

        private int gradedOf(int head, int grade) {
            int many = 0;
            for (int place = 0; place < PLACES; place++) {
                if (gradeOf(head * PLACES + place) == grade) {
                    many++;
                }
            }
            return many;
        }

        private int overHeads(int what) {
            int sum = 0;
            for (int head = 0; head < HEADS; head++) {
                sum += tellHead(head, what);
            }
            return sum;
        }

        private int longWayCount() {
            int many = 0;
            for (int address = 0; address < SECTORS; address++) {
                if (isAddress(address) && isLongWay(address)) {
                    many++;
                }
            }
            return many;
        }
    }

    /** The latest states, in rows that are used again: the oldest one's room is the next one's. */
    private static final class History {
        private final Heads[] rooms = new Heads[HISTORY_ROOM];
        private int oldest = 0;
        private int many = 0;

        History() {
            for (int room = 0; room < HISTORY_ROOM; room++) {
                rooms[room] = new Heads();
            }
        }

        int states() {
            return many;
        }

        void record(Heads heads) {
            if (many == HISTORY_ROOM) {
                oldest = (oldest + 1) % HISTORY_ROOM;
                many--;
            }
            rooms[(oldest + many) % HISTORY_ROOM].takeOver(heads);
            many++;
        }

        void takeBack(Heads heads) {
            if (many > 0) {
                many--;
                heads.takeOver(rooms[(oldest + many) % HISTORY_ROOM]);
            }
        }
    }

    /** The text, and the commands that it was read as. */
    private static final class CommandText {
        private static final int END = -1;

        /** The characters by their numbers, as any character can be typed. */
        private final int[] codes = new int[TEXT_ROOM];
        private int length = 0;
        private final int[] sectors = new int[MOST_COMMANDS];
        /** What a command writes; NONE if it reads. */
        private final int[] values = new int[MOST_COMMANDS];
        private int commands = 0;
        private int at = 0;

        int length() {
            return length;
        }

        int append(int code) {
            if (length >= TEXT_ROOM) {
                return FULL;
            }
            codes[length] = code;
            length++;
            return length;
        }

        int empty() {
            int previous = length;
            length = 0;
            return previous;
        }

        int commandCount() {
            return commands;
        }

        int commandSector(int command) {
            return sectors[command];
        }

        int commandValue(int command) {
            return values[command];
        }

        /** Reads the commands out of the text; returns its fault, NONE if it has none. */
        int parse() {
            at = 0;
            commands = 0;
            for (int round = 0; round < MOST_COMMANDS; round++) {
                if (!takeCommand()) {
                    return at;
                }
                if (peek() == END) {
                    return NONE;
                }
                if (!take(';')) {
                    return at;
                }
            }
            // So many commands leave no room behind the last ";": the text ends too early.
            return at;
        }

        private boolean takeCommand() {
            boolean writing = take('w');
            if (!writing && !take('r')) {
                return false;
            }
            int sector = takeNumber(SECTORS - 1);
            if (sector == NONE) {
                return false;
            }
            int value = NONE;
            if (writing) {
                if (!take('=')) {
                    return false;
                }
                value = takeNumber(MOST_VALUE);
                if (value == NONE) {
                    return false;
                }
            }
            addCommand(sector, value);
            return true;
        }

        private void addCommand(int sector, int value) {
            if (commands < MOST_COMMANDS) {
                sectors[commands] = sector;
                values[commands] = value;
                commands++;
            }
        }

        /** Takes digits as long as they are allowed; returns the number, NONE if there is none. */
        private int takeNumber(int greatest) {
            int number = digitAt(at);
            if (number == NONE) {
                return NONE;
            }
            at++;
            // Behind the single digit 0 no digit is allowed.
            while (at < length && number > 0) {
                int digit = digitAt(at);
                if (digit == NONE || 10 * number + digit > greatest) {
                    return number;
                }
                number = 10 * number + digit;
                at++;
            }
            return number;
        }

        private int digitAt(int index) {
            if (index >= length || codes[index] < '0' || codes[index] > '9') {
                return NONE;
            }
            return codes[index] - '0';
        }

        private int peek() {
            return at < length ? codes[at] : END;
        }

        private boolean take(int code) {
            if (peek() != code) {
                return false;
            }
            at++;
            return true;
        }
    }
}
