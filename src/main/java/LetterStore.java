/** A switch's one store of letters that its lines share; ../shared/DOC.md says what each call promises. */
public final class LetterStore {
    public static final int BAD = -1, NOT = -2, FULL = -3, NULL = -11, CAST = -12, INDEX = -13, SIZE = -14;

    private static final int MOST_LINES = 4;
    private static final int MOST_ROWS = 4;
    private static final int MOST_SHEETS = 4;
    private static final int MOST_ROOM = 12;
    private static final int MOST_PACE = 5;
    private static final int MOST_LAG = 5;
    private static final int MOST_SHARE = 160;
    private static final int MOST_LETTERS = 80;
    private static final int MOST_ITEMS = 160;
    private static final int LAST_LETTER_TICK = 39;
    private static final int RUN_END = 400;

    private static final int PLAIN_KIND = 0;
    private static final int SURE_KIND = 1;
    private static final int HELD_KIND = 2;

    private static final int BYTES = 0;
    private static final int SHORTS = 1;
    private static final int INTS = 2;

    private static final int FIXED = 0;
    private static final int SHARED = 1;
    private static final int PUSHED = 2;
    private static final int KEPT = 3;

    private static final int SENT = 0;
    private static final int REFUSED = 1;
    private static final int PUSHED_OUT = 2;
    private static final int STUCK = 3;

    private static final int ALL_LINES = -1;
    private static final int NOTHING = -1;
    private static final int NO_PUSHER = -2;

    private final Setting setting = new Setting();
    private final Row[] rows = new Row[MOST_ROWS];
    private final Sheet[] sheets = new Sheet[MOST_SHEETS];
    private final Run latest = new Run(setting);
    /** A run beside the latest one, so that shortBy leaves that as it is. */
    private final Run trial = new Run(setting);
    private final Foresight foresight = new Foresight(setting);
    private boolean hasRun;
    private int witnessRow = NOTHING;

    public LetterStore() {
        for (int i = 0; i < MOST_ROWS; i++) {
            rows[i] = new Row();
        }
        for (int i = 0; i < MOST_SHEETS; i++) {
            sheets[i] = new Sheet();
        }
    }

    // ---- 1 the store, lines

    public int room(int b) {
        if (!isWithin(b, 1, MOST_ROOM) || setting.partsTogether() > b) {
            return BAD;
        }
        int was = setting.roomSize;
        setting.roomSize = b;
        return was;
    }

    public int line(int kind, int mark) {
        if (!isWithin(kind, PLAIN_KIND, HELD_KIND) || !isWithin(mark, 0, MOST_ROOM)) {
            return BAD;
        }
        int firstPart = kind == PLAIN_KIND ? 0 : Sure.FIRST_PART;
        if (setting.partsTogether() + firstPart > setting.roomSize) {
            return NOT;
        }
        if (setting.lineCount >= MOST_LINES) {
            return FULL;
        }
        return setting.addLine(newLine(kind, mark));
    }

    public int mark(int line, int mark) {
        Line which = setting.lineAt(line);
        if (which == null || !isWithin(mark, 0, MOST_ROOM)) {
            return BAD;
        }
        int was = which.mark;
        which.mark = mark;
        return was;
    }

    public int pace(int line, int pace) {
        Line which = setting.lineAt(line);
        if (which == null || !isWithin(pace, 1, MOST_PACE)) {
            return BAD;
        }
        int was = which.pace;
        which.pace = pace;
        return was;
    }

    public int part(int line, int part) {
        Line which = setting.lineAt(line);
        if (which == null || !isWithin(part, 0, MOST_ROOM)) {
            return BAD;
        }
        if (which instanceof Sure sure) {
            if (setting.partsTogether() - sure.part + part > setting.roomSize) {
                return NOT;
            }
            int was = sure.part;
            sure.part = part;
            return was;
        }
        return CAST;
    }

    public int hold(int line, int high, int low, int lag) {
        Line which = setting.lineAt(line);
        if (which == null || !isWithin(high, 1, MOST_ROOM) || !isWithin(low, 0, high - 1)
                || !isWithin(lag, 0, MOST_LAG)) {
            return BAD;
        }
        if (which instanceof Held held) {
            held.high = high;
            held.low = low;
            held.lag = lag;
            return 1;
        }
        return CAST;
    }

    public int told(int line, int what) {
        Line which = setting.lineAt(line);
        if (which == null) {
            return BAD;
        }
        switch (what) {
            case 0:
                return which.kindNumber();
            case 1:
                return which.mark;
            case 2:
                return which.keptPart();
            case 3:
            case 4:
            case 5:
            case 6:
                return which instanceof Held held ? held.bound(what) : 0;
            case 7:
                return which.pace;
            default:
                return BAD;
        }
    }

    public int share(int a) {
        if (!isWithin(a, 1, MOST_SHARE)) {
            return BAD;
        }
        int was = setting.shareSize;
        setting.shareSize = a;
        return was;
    }

    // ---- 2 sheets and rows

    public int sheet(int sheet, int lane, int n) {
        if (!isSheetNumber(sheet) || !isLane(lane) || n > MOST_ITEMS) {
            return BAD;
        }
        if (n < 0) {
            return SIZE;
        }
        sheets[sheet].beginRow(lane, n);
        return n;
    }

    public int drop(int sheet) {
        if (!isSheetNumber(sheet)) {
            return BAD;
        }
        Sheet which = sheets[sheet];
        if (!which.hasRow) {
            return NULL;
        }
        which.hasRow = false;
        return which.size;
    }

    public int item(int sheet, int lane, int i, int v) {
        if (!isSheetNumber(sheet) || !isLane(lane)) {
            return BAD;
        }
        Sheet which = sheets[sheet];
        if (!which.hasRow) {
            return NULL;
        }
        if (which.lane != lane) {
            return CAST;
        }
        if (!which.hasItems(i, 1)) {
            return INDEX;
        }
        which.put(i, v);
        return 1;
    }

    public int copy(int from, int i, int to, int j, int n) {
        if (!isSheetNumber(from) || !isSheetNumber(to)) {
            return BAD;
        }
        Sheet source = sheets[from];
        Sheet target = sheets[to];
        if (!source.hasRow || !target.hasRow) {
            return NULL;
        }
        if (source.lane != target.lane) {
            return CAST;
        }
        if (!source.hasItems(i, n) || !target.hasItems(j, n)) {
            return INDEX;
        }
        System.arraycopy(source.items, i, target.items, j, n);
        return n;
    }

    public int letters(int row, int sheet, int lane, int from, int n) {
        Row target = rowAt(row);
        if (target == null || !isSheetNumber(sheet) || !isLane(lane) || !isWithin(n, 0, MOST_LETTERS)) {
            return BAD;
        }
        Sheet source = sheets[sheet];
        if (!source.hasRow) {
            return NULL;
        }
        if (source.lane != lane) {
            return CAST;
        }
        if (!source.hasItems(from, 2 * n)) {
            return INDEX;
        }
        if (!areLetters(source, from, n, target.lastTick())) {
            return NOT;
        }
        if (target.size + n > MOST_LETTERS) {
            return FULL;
        }
        target.addLetters(source, from, n);
        return target.size;
    }

    public int clear(int row) {
        Row which = rowAt(row);
        if (which == null) {
            return BAD;
        }
        int had = which.size;
        which.size = 0;
        which.passes = false;
        return had;
    }

    public int letter(int row, int k, int what) {
        Row which = rowAt(row);
        if (which == null) {
            return BAD;
        }
        if (k == -1) {
            return which.size;
        }
        if (!isWithin(k, 0, which.size - 1) || !isWithin(what, 0, 1)) {
            return BAD;
        }
        return what == 0 ? which.tickOf[k] : which.lineOf[k];
    }

    // ---- 3 runs

    public int run(int row, int rule) {
        Row which = rowAt(row);
        if (which == null || !isWithin(rule, FIXED, KEPT)) {
            return BAD;
        }
        latest.play(which, rule, true);
        hasRun = true;
        return latest.countOf(ALL_LINES, SENT);
    }

    public int fate(int k, int what) {
        if (!hasRun || !isWithin(k, 0, latest.letterCount - 1)) {
            return BAD;
        }
        switch (what) {
            case 0:
                return latest.fateOf[k];
            case 1:
                return latest.fateTick[k];
            case 2:
                return latest.pusherOf[k];
            default:
                return BAD;
        }
    }

    public int sum(int line, int what) {
        if (!hasRun || !isWithin(line, ALL_LINES, setting.lineCount - 1) || !isWithin(what, 0, 4)) {
            return BAD;
        }
        if (what != 4) {
            return latest.countOf(line, what);
        }
        return line == ALL_LINES ? latest.peakOfAll : latest.peakOf[line];
    }

    public int length(int line, int tick) {
        if (!hasRun || setting.lineAt(line) == null || !isWithin(tick, 0, RUN_END - 1)) {
            return BAD;
        }
        return latest.lengthAt(line, tick);
    }

    public int ticks() {
        return hasRun ? latest.tickCount : BAD;
    }

    // ---- 4 foresight and marks

    public int best(int row) {
        Row which = rowAt(row);
        return which == null ? BAD : foresight.mostTaken(which);
    }

    public int shortBy(int row, int rule) {
        Row which = rowAt(row);
        if (which == null || !isWithin(rule, FIXED, PUSHED)) {
            return BAD;
        }
        trial.play(which, rule, false);
        return foresight.mostTaken(which) - trial.countOf(ALL_LINES, SENT);
    }

    public int pass(int row, boolean is) {
        Row which = rowAt(row);
        if (which == null) {
            return BAD;
        }
        which.passes = is;
        int count = 0;
        for (int i = 0; i < MOST_ROWS; i++) {
            if (rows[i].passes) {
                count++;
            }
        }
        return count;
    }

    /** A greater a never refuses more where a lesser one refuses none, so the rows' own least a are compared. */
    public int marks() {
        int least = 1;
        for (int i = 0; i < MOST_ROWS; i++) {
            if (rows[i].passes) {
                int own = foresight.leastShare(rows[i]);
                if (own == NOTHING) {
                    witnessRow = i;
                    return NOT;
                }
                least = Math.max(least, own);
            }
        }
        witnessRow = NOTHING;
        return least;
    }

    public int witness() {
        return witnessRow;
    }

    // ---- what the calls above share

    private static boolean isWithin(int value, int least, int most) {
        return value >= least && value <= most;
    }

    private static boolean isSheetNumber(int sheet) {
        return isWithin(sheet, 0, MOST_SHEETS - 1);
    }

    private static boolean isLane(int lane) {
        return isWithin(lane, BYTES, INTS);
    }

    private static Line newLine(int kind, int mark) {
        if (kind == HELD_KIND) {
            return new Held(mark);
        }
        return kind == SURE_KIND ? new Sure(mark) : new Line(mark);
    }

    private Row rowAt(int row) {
        return isWithin(row, 0, MOST_ROWS - 1) ? rows[row] : null;
    }

    private boolean areLetters(Sheet source, int from, int n, int tickAhead) {
        int least = tickAhead;
        for (int k = 0; k < n; k++) {
            int tick = source.items[from + 2 * k];
            if (!isWithin(tick, least, LAST_LETTER_TICK) || setting.lineAt(source.items[from + 2 * k + 1]) == null) {
                return false;
            }
            least = tick;
        }
        return true;
    }

    private static class Line {
        int mark;
        int pace = 1;

        Line(int mark) {
            this.mark = mark;
        }

        int kindNumber() {
            return PLAIN_KIND;
        }

        /** How much room is kept for this line alone. */
        int keptPart() {
            return 0;
        }

        boolean sendsAt(int tick) {
            return pace > 0 && (tick + 1) % pace == 0;
        }
    }

    private static class Sure extends Line {
        static final int FIRST_PART = 1;

        int part = FIRST_PART;

        Sure(int mark) {
            super(mark);
        }

        int kindNumber() {
            return SURE_KIND;
        }

        int keptPart() {
            return part;
        }
    }

    private static final class Held extends Sure {
        int high = 2;
        int low = 1;
        int lag = 1;

        Held(int mark) {
            super(mark);
        }

        int kindNumber() {
            return HELD_KIND;
        }

        /** The numbers 3 .. 6 of told. */
        int bound(int what) {
            switch (what) {
                case 3:
                    return high;
                case 4:
                    return low;
                case 5:
                    return lag;
                default:
                    return high + lag;
            }
        }

        boolean tellsHalt(int lengthNow, boolean toldHalt) {
            if (lengthNow >= high) {
                return true;
            }
            return lengthNow > low && toldHalt;
        }
    }

    /** The store's room, its lines and a: what every run and every foresight looks at. */
    private static final class Setting {
        final Line[] lines = new Line[MOST_LINES];
        int lineCount = 1;
        int roomSize = 8;
        int shareSize = 16;

        Setting() {
            lines[0] = new Line(4);
        }

        Line lineAt(int number) {
            return isWithin(number, 0, lineCount - 1) ? lines[number] : null;
        }

        int addLine(Line added) {
            int number = lineCount;
            lines[number] = added;
            lineCount++;
            return number;
        }

        int partsTogether() {
            int together = 0;
            for (int i = 0; i < lineCount; i++) {
                together += lines[i].keptPart();
            }
            return together;
        }
    }

    /** Its array is made once and used for every row that it comes to hold. */
    private static final class Sheet {
        /** Each item is held as an int, already cut to its lane's bits. */
        final int[] items = new int[MOST_ITEMS];
        boolean hasRow;
        int lane;
        int size;

        void beginRow(int ofLane, int n) {
            hasRow = true;
            lane = ofLane;
            size = n;
            for (int i = 0; i < MOST_ITEMS; i++) {
                items[i] = 0;
            }
        }

        /** Written without from + n, which could wrap around. */
        boolean hasItems(int from, int n) {
            return from >= 0 && n >= 0 && from <= size - n;
        }

        void put(int i, int v) {
            if (lane == BYTES) {
                items[i] = (byte) v;
            } else if (lane == SHORTS) {
                items[i] = (short) v;
            } else {
                items[i] = v;
            }
        }
    }

    private static final class Row {
        final int[] tickOf = new int[MOST_LETTERS];
        final int[] lineOf = new int[MOST_LETTERS];
        int size;
        boolean passes;

        int lastTick() {
            return size == 0 ? 0 : tickOf[size - 1];
        }

        void addLetters(Sheet source, int from, int n) {
            for (int k = 0; k < n; k++) {
                tickOf[size] = source.items[from + 2 * k];
                lineOf[size] = source.items[from + 2 * k + 1];
                size++;
            }
        }
    }

    /** The letters of one line in the store, by their numbers: a ring, as no line has more than the store has room. */
    private static final class Queue {
        final int[] ring = new int[MOST_ROOM];
        int head;
        int size;

        void addLast(int letter) {
            ring[(head + size) % MOST_ROOM] = letter;
            size++;
        }

        int removeFirst() {
            int letter = ring[head];
            head = (head + 1) % MOST_ROOM;
            size--;
            return letter;
        }

        int removeLast() {
            size--;
            return ring[(head + size) % MOST_ROOM];
        }
    }

    /** One run of a row by a rule, and what became of its letters. */
    private static final class Run {
        final Setting setting;
        final Queue[] queues = new Queue[MOST_LINES];
        /** Own copies, as a row may be cleared behind its run. */
        final int[] lineOf = new int[MOST_LETTERS];
        final int[] takenAt = new int[MOST_LETTERS];
        final int[] fateOf = new int[MOST_LETTERS];
        final int[] fateTick = new int[MOST_LETTERS];
        final int[] pusherOf = new int[MOST_LETTERS];
        final int[] peakOf = new int[MOST_LINES];
        /** Bit n of a line: HALT was told n and 1 ticks ago; ahead of all it is GO. */
        final int[] haltBits = new int[MOST_LINES];
        /** The place in the row from which on a held line's sender looks for its next letter. */
        final int[] senderPlace = new int[MOST_LINES];
        int rule;
        boolean sendersWait;
        int now;
        int duePlace;
        int letterCount;
        int tickCount;
        int undecided;
        int stored;
        int peakOfAll;

        Run(Setting setting) {
            this.setting = setting;
            for (int i = 0; i < MOST_LINES; i++) {
                queues[i] = new Queue();
            }
        }

        /** With heldWait false, held lines are as if they were plain lines. */
        void play(Row row, int byRule, boolean heldWait) {
            begin(row);
            rule = byRule;
            sendersWait = heldWait;
            for (int tick = 0; tick < RUN_END && undecided + stored > 0; tick++) {
                now = tick;
                offerHeld(row);
                offerDue(row);
                sendFirsts();
                tellStates();
                tickCount++;
            }
            sendRest();
        }

        private void begin(Row row) {
            letterCount = row.size;
            undecided = row.size;
            duePlace = 0;
            tickCount = 0;
            stored = 0;
            peakOfAll = 0;
            for (int k = 0; k < letterCount; k++) {
                lineOf[k] = row.lineOf[k];
                takenAt[k] = RUN_END;
                settle(k, STUCK, RUN_END);
                pusherOf[k] = NO_PUSHER;
            }
            for (int i = 0; i < MOST_LINES; i++) {
                peakOf[i] = 0;
                haltBits[i] = 0;
                senderPlace[i] = 0;
            }
        }

        private void settle(int letter, int fate, int tick) {
            fateOf[letter] = fate;
            fateTick[letter] = tick;
        }

        private void offerHeld(Row row) {
            for (int i = 0; i < setting.lineCount; i++) {
                if (waits(i) && !isHalted(i)) {
                    int letter = nextWaiting(row, i);
                    if (letter != NOTHING) {
                        senderPlace[i] = letter + 1;
                        offer(letter);
                    }
                }
            }
        }

        private boolean waits(int line) {
            return sendersWait && setting.lines[line] instanceof Held;
        }

        private boolean isHalted(int line) {
            return setting.lines[line] instanceof Held held && (haltBits[line] >> held.lag & 1) == 1;
        }

        private int nextWaiting(Row row, int line) {
            int place = senderPlace[line];
            while (place < row.size && row.tickOf[place] <= now && row.lineOf[place] != line) {
                place++;
            }
            senderPlace[line] = place;
            return place < row.size && row.tickOf[place] <= now ? place : NOTHING;
        }

        private void offerDue(Row row) {
            while (duePlace < row.size && row.tickOf[duePlace] <= now) {
                if (!waits(row.lineOf[duePlace])) {
                    offer(duePlace);
                }
                duePlace++;
            }
        }

        private void offer(int letter) {
            undecided--;
            if (admits(letter)) {
                take(letter);
            } else {
                settle(letter, REFUSED, now);
            }
        }

        private boolean admits(int letter) {
            int line = lineOf[letter];
            int own = queues[line].size;
            int free = setting.roomSize - stored;
            switch (rule) {
                case FIXED:
                    return own < setting.lines[line].mark && free > 0;
                case SHARED:
                    return 16 * own < setting.shareSize * free && free > 0;
                case PUSHED:
                    return free > 0 || pushesOut(letter, own);
                default:
                    return own < setting.lines[line].keptPart() || hasRoomBeside();
            }
        }

        private boolean pushesOut(int letter, int own) {
            int longest = 0;
            for (int i = 1; i < setting.lineCount; i++) {
                if (queues[i].size >= queues[longest].size) {
                    longest = i;
                }
            }
            if (queues[longest].size <= own + 1) {
                return false;
            }
            int pushed = queues[longest].removeLast();
            stored--;
            settle(pushed, PUSHED_OUT, now);
            pusherOf[pushed] = letter;
            return true;
        }

        private boolean hasRoomBeside() {
            int counted = 0;
            for (int i = 0; i < setting.lineCount; i++) {
                counted += Math.max(queues[i].size, setting.lines[i].keptPart());
            }
            return counted < setting.roomSize;
        }

        private void take(int letter) {
            int line = lineOf[letter];
            queues[line].addLast(letter);
            takenAt[letter] = now;
            stored++;
            peakOf[line] = Math.max(peakOf[line], queues[line].size);
            peakOfAll = Math.max(peakOfAll, stored);
        }

        private void sendFirsts() {
            for (int i = 0; i < setting.lineCount; i++) {
                if (queues[i].size > 0 && setting.lines[i].sendsAt(now)) {
                    settle(queues[i].removeFirst(), SENT, now);
                    stored--;
                }
            }
        }

        private void tellStates() {
            for (int i = 0; i < setting.lineCount; i++) {
                if (setting.lines[i] instanceof Held held) {
                    boolean halts = held.tellsHalt(queues[i].size, (haltBits[i] & 1) == 1);
                    haltBits[i] = haltBits[i] << 1 | (halts ? 1 : 0);
                }
            }
        }

        /** What a run that came to its last tick leaves in the store counts as sent then. */
        private void sendRest() {
            for (int i = 0; i < MOST_LINES; i++) {
                for (int left = queues[i].size; left > 0; left--) {
                    settle(queues[i].removeFirst(), SENT, RUN_END);
                }
            }
        }

        int countOf(int line, int fate) {
            int count = 0;
            for (int k = 0; k < letterCount; k++) {
                if (fateOf[k] == fate && (line == ALL_LINES || lineOf[k] == line)) {
                    count++;
                }
            }
            return count;
        }

        /** A letter is in the store from the tick that takes it to that of its fate; others have takenAt RUN_END. */
        int lengthAt(int line, int tick) {
            int count = 0;
            for (int k = 0; k < letterCount; k++) {
                if (lineOf[k] == line && takenAt[k] <= tick && tick < fateTick[k]) {
                    count++;
                }
            }
            return count;
        }
    }

    /** What can be known of a row when all its letters are known ahead; held lines are as plain ones here. */
    private static final class Foresight {
        /** More ticks than a line of the slowest pace needs for all letters of a row. */
        private static final int ENOUGH_TICKS = LAST_LETTER_TICK + 1 + MOST_LETTERS * MOST_PACE;

        final Setting setting;
        /** The tick at which a letter leaves the store; NOTHING: it is not taken. */
        final int[] leavesAt = new int[MOST_LETTERS];
        final int[] below = new int[MOST_LETTERS];
        final int[] topOf = new int[MOST_LINES];
        final int[] lengthOf = new int[MOST_LINES];

        Foresight(Setting setting) {
            this.setting = setting;
        }

        /**
         * Which letter of a line goes at a tick does not change any length, so each goes with the youngest letter that
         * is there: so every tick at which a line can send has one letter of its own, and each letter a fixed stay.
         * The most stays of which no more than the room meet are found by giving up, whenever too many meet, the one
         * that would end last.
         */
        int mostTaken(Row row) {
            pairLettersWithTicks(row);
            int taken = 0;
            for (int k = 0; k < row.size; k++) {
                taken++;
                if (staysAt(row.tickOf[k], k) > setting.roomSize) {
                    leavesAt[longestStay(k)] = NOTHING;
                    taken--;
                }
            }
            return taken;
        }

        private void pairLettersWithTicks(Row row) {
            for (int i = 0; i < MOST_LINES; i++) {
                topOf[i] = NOTHING;
            }
            int come = 0;
            int left = row.size;
            for (int tick = 0; tick < ENOUGH_TICKS && left > 0; tick++) {
                while (come < row.size && row.tickOf[come] <= tick) {
                    below[come] = topOf[row.lineOf[come]];
                    topOf[row.lineOf[come]] = come;
                    come++;
                }
                left -= popYoungest(tick);
            }
        }

        private int popYoungest(int tick) {
            int popped = 0;
            for (int i = 0; i < setting.lineCount; i++) {
                int letter = topOf[i];
                if (letter != NOTHING && setting.lines[i].sendsAt(tick)) {
                    leavesAt[letter] = tick;
                    topOf[i] = below[letter];
                    popped++;
                }
            }
            return popped;
        }

        private int staysAt(int tick, int lastLetter) {
            int count = 0;
            for (int k = 0; k <= lastLetter; k++) {
                if (leavesAt[k] >= tick) {
                    count++;
                }
            }
            return count;
        }

        private int longestStay(int lastLetter) {
            int longest = 0;
            for (int k = 1; k <= lastLetter; k++) {
                if (leavesAt[k] > leavesAt[longest]) {
                    longest = k;
                }
            }
            return longest;
        }

        /** The least a by which a row alone has no letter refused; NOTHING: there is none. */
        int leastShare(Row row) {
            for (int i = 0; i < MOST_LINES; i++) {
                lengthOf[i] = 0;
            }
            int least = 1;
            int tick = 0;
            int stored = 0;
            for (int k = 0; k < row.size; k++) {
                for (; tick < row.tickOf[k]; tick++) {
                    stored -= passTick(tick);
                }
                int line = row.lineOf[k];
                least = Math.max(least, shareToTake(lengthOf[line], setting.roomSize - stored));
                if (least > MOST_SHARE) {
                    return NOTHING;
                }
                lengthOf[line]++;
                stored++;
            }
            return least;
        }

        /** The least a with 16 own less than a times free. */
        private static int shareToTake(int own, int free) {
            return free <= 0 ? MOST_SHARE + 1 : 16 * own / free + 1;
        }

        private int passTick(int tick) {
            int sent = 0;
            for (int i = 0; i < setting.lineCount; i++) {
                if (lengthOf[i] > 0 && setting.lines[i].sendsAt(tick)) {
                    lengthOf[i]--;
                    sent++;
                }
            }
            return sent;
        }
    }
}
