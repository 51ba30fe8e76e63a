import java.util.ArrayDeque;
import java.util.ArrayList;
import java.util.Arrays;
import java.util.HashMap;
import java.util.List;
import java.util.Map;
import java.util.Random;

/** Random calls against a plain model, written apart from the class: slow, but nearest to the document's words. */
public final class ModelTest {
    private static final int MOST_TOLD = 20;
    private static int wrong = 0;

    public static void main(String[] args) {
        int stuck = 0;
        int pushed = 0;
        int shortened = 0;
        int witnessed = 0;
        for (int seed = 0; seed < 1500 && wrong < MOST_TOLD; seed++) {
            Case c = new Case(new Random(seed), seed);
            c.checkRuns();
            c.checkForesight();
            c.checkMarks();
            stuck += c.stuck;
            pushed += c.pushed;
            shortened += c.shortened;
            witnessed += c.witnessed;
        }
        if (stuck == 0 || pushed == 0 || shortened == 0 || witnessed == 0) {
            wrong++;
            System.out.println("the random cases reach too little: " + stuck + " stuck, " + pushed + " pushed out, "
                + shortened + " short, " + witnessed + " witnesses");
        }
        heldLinesLoseNoneByNeed();
        wildCalls();
        if (wrong != 0) {
            System.out.println(wrong + " answers are not as due");
            System.exit(1);
        }
    }

    private static void due(String call, int got, int want) {
        if (got != want) {
            wrong++;
            if (wrong <= MOST_TOLD) {
                System.out.println(call + " answered " + got + ", due is " + want);
            }
        }
    }

    /** One random store with up to four rows of random letters. */
    private static final class Case {
        final LetterStore x = new LetterStore();
        final String name;
        final int b;
        final int a;
        /** So slow that runs of many letters for a held line come to tick 400. */
        final boolean slow;
        final int lines;
        final int[] kind = new int[4];
        final int[] mark = new int[4];
        final int[] pace = new int[4];
        final int[] part = new int[4];
        final int[] high = new int[4];
        final int[] low = new int[4];
        final int[] lag = new int[4];
        final int[][] tick = new int[4][];
        final int[][] line = new int[4][];
        int stuck;
        int pushed;
        int shortened;
        int witnessed;

        Case(Random r, int seed) {
            name = "case " + seed;
            b = 1 + r.nextInt(12);
            a = r.nextInt(3) == 0 ? 1 + r.nextInt(160) : 1 + r.nextInt(40);
            slow = r.nextInt(8) == 0;
            lines = slow ? 2 : 1 + r.nextInt(4);
            due(name + " room", x.room(12), 8);
            due(name + " share", x.share(a), 16);
            int parts = 0;
            for (int i = 0; i < lines; i++) {
                kind[i] = i == 0 ? 0 : r.nextInt(3);
                mark[i] = r.nextInt(13);
                pace[i] = slow ? 5 : r.nextInt(3) == 0 ? 1 : 1 + r.nextInt(5);
                part[i] = kind[i] == 0 ? 0 : r.nextInt(Math.min(8, b - parts + 1));
                parts += part[i];
                high[i] = 1 + r.nextInt(slow || r.nextBoolean() ? 4 : 12);
                low[i] = slow ? 0 : r.nextInt(high[i]);
                lag[i] = slow ? 5 : r.nextInt(6);
                setLine(i);
            }
            for (int i = 0; i < lines; i++) {
                due(name + " part", x.part(i, part[i]), kind[i] == 0 ? -12 : 0);
            }
            due(name + " room", x.room(b), 12);
            for (int row = 0; row < 4; row++) {
                layRow(r, row);
            }
        }

        private void setLine(int i) {
            if (i > 0) {
                due(name + " line", x.line(kind[i], mark[i]), i);
            } else {
                x.mark(0, mark[0]);
            }
            due(name + " pace", x.pace(i, pace[i]), 1);
            if (kind[i] > 0) {
                due(name + " part", x.part(i, 0), 1);
            }
            if (kind[i] == 2) {
                due(name + " hold", x.hold(i, high[i], low[i], lag[i]), 1);
            }
        }

        private void layRow(Random r, int row) {
            int n = slow ? 80 : r.nextInt(4) == 0 ? r.nextInt(81) : r.nextInt(25);
            int lastTick = r.nextInt(3) == 0 ? 40 : 1 + r.nextInt(12);
            int favourite = r.nextInt(lines);
            tick[row] = new int[n];
            line[row] = new int[n];
            for (int k = 0; k < n; k++) {
                tick[row][k] = r.nextInt(lastTick);
                line[row][k] = slow || r.nextInt(3) == 0 ? favourite : r.nextInt(lines);
            }
            Arrays.sort(tick[row]);
            int lane = r.nextInt(3);
            int from = r.nextInt(161 - 2 * n);
            x.sheet(row, lane, 160);
            for (int k = 0; k < n; k++) {
                x.item(row, lane, from + 2 * k, tick[row][k]);
                x.item(row, lane, from + 2 * k + 1, line[row][k]);
            }
            due(name + " letters", x.letters(row, row, lane, from, n), n);
        }

        void checkRuns() {
            for (int row = 0; row < 4; row++) {
                for (int rule = 0; rule < 4; rule++) {
                    ModelRun m = new ModelRun(this, row, rule, a, true);
                    String run = name + " run(" + row + ", " + rule + ")";
                    due(run, x.run(row, rule), m.count(-1, 0));
                    checkRun(run, m);
                    stuck += m.count(-1, 3);
                    pushed += m.count(-1, 2);
                }
            }
        }

        private void checkRun(String run, ModelRun m) {
            due(run + " ticks", x.ticks(), m.lengths.size());
            for (int k = 0; k < m.n; k++) {
                due(run + " fate " + k, x.fate(k, 0), m.fate[k]);
                due(run + " fate tick " + k, x.fate(k, 1), m.when[k]);
                due(run + " fate pusher " + k, x.fate(k, 2), m.by[k]);
            }
            for (int l = -1; l < lines; l++) {
                for (int what = 0; what < 4; what++) {
                    due(run + " sum(" + l + ", " + what + ")", x.sum(l, what), m.count(l, what));
                }
                due(run + " sum(" + l + ", 4)", x.sum(l, 4), m.peak[l + 1]);
                for (int t = 0; l >= 0 && t < 400; t++) {
                    int want = t < m.lengths.size() ? m.lengths.get(t)[l] : 0;
                    due(run + " length(" + l + ", " + t + ")", x.length(l, t), want);
                }
            }
        }

        void checkForesight() {
            for (int row = 0; row < 4; row++) {
                int best = bestOfAllChoices(row);
                due(name + " best(" + row + ")", x.best(row), best);
                for (int rule = 0; rule < 3; rule++) {
                    int want = best - new ModelRun(this, row, rule, a, false).count(-1, 0);
                    due(name + " shortBy(" + row + ", " + rule + ")", x.shortBy(row, rule), want);
                    shortened += rule == 2 ? want : 0;
                }
            }
        }

        /** The most letters taken for each tuple of lengths that some choice of letters can lead to. */
        private int bestOfAllChoices(int row) {
            Map<List<Integer>, Integer> reached = new HashMap<>();
            reached.put(List.of(0, 0, 0, 0), 0);
            int k = 0;
            for (int t = 0; t < 40; t++) {
                for (; k < tick[row].length && tick[row][k] == t; k++) {
                    Map<List<Integer>, Integer> next = new HashMap<>(reached);
                    for (Map.Entry<List<Integer>, Integer> e : reached.entrySet()) {
                        List<Integer> more = new ArrayList<>(e.getKey());
                        more.set(line[row][k], more.get(line[row][k]) + 1);
                        if (more.stream().mapToInt(Integer::intValue).sum() <= b) {
                            next.merge(more, e.getValue() + 1, Math::max);
                        }
                    }
                    reached = next;
                }
                Map<List<Integer>, Integer> next = new HashMap<>();
                for (Map.Entry<List<Integer>, Integer> e : reached.entrySet()) {
                    List<Integer> less = new ArrayList<>(e.getKey());
                    for (int l = 0; l < lines; l++) {
                        if (less.get(l) > 0 && (t + 1) % pace[l] == 0) {
                            less.set(l, less.get(l) - 1);
                        }
                    }
                    next.merge(less, e.getValue(), Math::max);
                }
                reached = next;
            }
            return reached.values().stream().mapToInt(Integer::intValue).max().orElse(0);
        }

        void checkMarks() {
            int[] own = new int[4];
            for (int row = 0; row < 4; row++) {
                own[row] = leastOfAll(row);
            }
            for (int told = 0; told < 16; told++) {
                int want = 1;
                int witness = -1;
                for (int row = 0; row < 4; row++) {
                    boolean is = (told >> row & 1) == 1;
                    x.pass(row, is);
                    want = is ? Math.max(want, own[row]) : want;
                    witness = is && witness < 0 && own[row] > 160 ? row : witness;
                }
                due(name + " marks()", x.marks(), want > 160 ? -2 : want);
                due(name + " witness()", x.witness(), witness);
                witnessed += witness >= 0 ? 1 : 0;
            }
        }

        private int leastOfAll(int row) {
            for (int each = 1; each <= 160; each++) {
                if (new ModelRun(this, row, 1, each, false).count(-1, 1) == 0) {
                    return each;
                }
            }
            return 161;
        }
    }

    /** A run in the document's order of words, with plain lists. */
    private static final class ModelRun {
        final Case c;
        final int row;
        final int rule;
        final int a;
        final int n;
        final int[] fate;
        final int[] when;
        final int[] by;
        final int[] peak = new int[5];
        final List<int[]> lengths = new ArrayList<>();
        final List<ArrayDeque<Integer>> store = new ArrayList<>();
        final List<ArrayDeque<Integer>> sender = new ArrayList<>();
        final List<List<Boolean>> halts = new ArrayList<>();

        ModelRun(Case c, int row, int rule, int a, boolean heldWait) {
            this.c = c;
            this.row = row;
            this.rule = rule;
            this.a = a;
            n = c.tick[row].length;
            fate = new int[n];
            when = new int[n];
            by = new int[n];
            Arrays.fill(by, -2);
            for (int l = 0; l < 4; l++) {
                store.add(new ArrayDeque<>());
                sender.add(new ArrayDeque<>());
                halts.add(new ArrayList<>());
            }
            play(heldWait);
        }

        private void play(boolean heldWait) {
            int t = 0;
            for (; t < 400 && goesOn(t); t++) {
                for (int k = 0; k < n; k++) {
                    if (c.tick[row][k] == t && heldWait && c.kind[c.line[row][k]] == 2) {
                        sender.get(c.line[row][k]).addLast(k);
                    }
                }
                for (int l = 0; l < c.lines; l++) {
                    int heard = t - 1 - c.lag[l];
                    boolean halted = heard >= 0 && halts.get(l).get(heard);
                    if (!sender.get(l).isEmpty() && !halted) {
                        come(sender.get(l).removeFirst(), t);
                    }
                }
                for (int k = 0; k < n; k++) {
                    if (c.tick[row][k] == t && !(heldWait && c.kind[c.line[row][k]] == 2)) {
                        come(k, t);
                    }
                }
                endTick(t);
            }
            for (int l = 0; l < 4; l++) {
                for (int k : store.get(l)) {
                    set(k, 0, 400);
                }
                for (int k : sender.get(l)) {
                    set(k, 3, 400);
                }
            }
        }

        private boolean goesOn(int t) {
            boolean any = n > 0 && c.tick[row][n - 1] >= t;
            for (int l = 0; l < 4; l++) {
                any |= !store.get(l).isEmpty() || !sender.get(l).isEmpty();
            }
            return any;
        }

        private void endTick(int t) {
            int[] now = new int[4];
            for (int l = 0; l < c.lines; l++) {
                if (!store.get(l).isEmpty() && (t + 1) % c.pace[l] == 0) {
                    set(store.get(l).removeFirst(), 0, t);
                }
                now[l] = store.get(l).size();
                boolean was = t > 0 && halts.get(l).get(t - 1);
                halts.get(l).add(now[l] >= c.high[l] || (now[l] > c.low[l] && was));
            }
            lengths.add(now);
        }

        private void set(int k, int what, int t) {
            fate[k] = what;
            when[k] = t;
        }

        private int all() {
            return store.stream().mapToInt(ArrayDeque::size).sum();
        }

        private void come(int k, int t) {
            int l = c.line[row][k];
            if (isTaken(k, l, t)) {
                store.get(l).addLast(k);
            } else {
                set(k, 1, t);
            }
            peak[0] = Math.max(peak[0], all());
            for (int i = 0; i < 4; i++) {
                peak[i + 1] = Math.max(peak[i + 1], store.get(i).size());
            }
        }

        private boolean isTaken(int k, int l, int t) {
            int x = store.get(l).size();
            int free = c.b - all();
            if (rule == 0) {
                return x < c.mark[l] && free > 0;
            }
            if (rule == 1) {
                return 16 * x < a * free && free > 0;
            }
            if (rule == 2) {
                return free > 0 || pushes(k, x, t);
            }
            if (c.kind[l] > 0 && x < c.part[l]) {
                return true;
            }
            int counted = 0;
            for (int i = 0; i < c.lines; i++) {
                counted += c.kind[i] > 0 ? Math.max(store.get(i).size(), c.part[i]) : store.get(i).size();
            }
            return counted < c.b;
        }

        private boolean pushes(int k, int x, int t) {
            int longest = c.lines - 1;
            for (int i = c.lines - 1; i >= 0; i--) {
                longest = store.get(i).size() > store.get(longest).size() ? i : longest;
            }
            if (store.get(longest).size() <= x + 1) {
                return false;
            }
            int out = store.get(longest).removeLast();
            set(out, 2, t);
            by[out] = k;
            return true;
        }

        int count(int l, int what) {
            int count = 0;
            for (int k = 0; k < n; k++) {
                count += fate[k] == what && (l < 0 || c.line[row][k] == l) ? 1 : 0;
            }
            return count;
        }
    }

    private static void heldLinesLoseNoneByNeed() {
        Random r = new Random(7);
        for (int i = 0; i < 300; i++) {
            LetterStore x = new LetterStore();
            x.room(12);
            x.line(2, 0);
            int high = 1 + r.nextInt(7);
            x.hold(1, high, r.nextInt(high), r.nextInt(6));
            x.pace(1, 1 + r.nextInt(5));
            due("part of need", x.part(1, x.told(1, 6)), 1);
            x.sheet(0, 0, 160);
            int tick = 0;
            for (int k = 0; k < 80; k++) {
                tick = Math.min(39, tick + r.nextInt(2));
                x.item(0, 0, 2 * k, tick);
                x.item(0, 0, 2 * k + 1, r.nextInt(2));
            }
            due("letters", x.letters(0, 0, 0, 0, 80), 80);
            x.run(0, 3);
            due("a part of need or more: none refused", x.sum(1, 1), 0);
        }
    }

    /** What is thrown here ends the test with an exit code that is not 0. */
    private static void wildCalls() {
        int[] values = {0, 1, 2, 3, 4, 5, 12, 39, 80, 160, -1, -2, Integer.MIN_VALUE, Integer.MAX_VALUE};
        Random r = new Random(11);
        for (int i = 0; i < 400; i++) {
            LetterStore x = new LetterStore();
            for (int j = 0; j < 512; j++) {
                int[] v = new int[5];
                for (int k = 0; k < 5; k++) {
                    v[k] = r.nextInt(3) == 0 ? values[r.nextInt(values.length)] : r.nextInt(6);
                }
                wildCall(x, r.nextInt(25), v);
            }
        }
    }

    private static int wildCall(LetterStore x, int which, int[] v) {
        switch (which) {
            case 0: return x.room(v[0]);
            case 1: return x.line(v[0], v[1]);
            case 2: return x.mark(v[0], v[1]);
            case 3: return x.pace(v[0], v[1]);
            case 4: return x.part(v[0], v[1]);
            case 5: return x.hold(v[0], v[1], v[2], v[3]);
            case 6: return x.told(v[0], v[1]);
            case 7: return x.share(v[0]);
            case 8: return x.sheet(v[0], v[1], v[2]);
            case 9: return x.drop(v[0]);
            case 10: return x.item(v[0], v[1], v[2], v[3]);
            case 11: return x.copy(v[0], v[1], v[2], v[3], v[4]);
            case 12: return x.letters(v[0], v[1], v[2], v[3], v[4]);
            case 13: return x.clear(v[0]);
            case 14: return x.letter(v[0], v[1], v[2]);
            case 15: return x.run(v[0], v[1]);
            case 16: return x.fate(v[0], v[1]);
            case 17: return x.sum(v[0], v[1]);
            case 18: return x.length(v[0], v[1]);
            case 19: return x.ticks();
            case 20: return x.best(v[0]);
            case 21: return x.shortBy(v[0], v[1]);
            case 22: return x.pass(v[0], v[1] > 0);
            case 23: return x.marks();
            default: return x.witness();
        }
    }
}
