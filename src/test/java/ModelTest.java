import java.util.Arrays;
import java.util.Random;

/** Random stores with full rows, every answer about their runs, foresight and marks against the model. */
public final class ModelTest {
    private static final int CASES = 800;
    private static final int MOST_TOLD = 20;
    private static int wrong = 0;

    public static void main(String[] args) {
        int[] reached = new int[4];
        for (int seed = 0; seed < CASES && wrong < MOST_TOLD; seed++) {
            Case c = new Case(seed);
            c.checkRuns();
            c.checkForesight();
            c.checkMarks();
            for (int i = 0; i < reached.length; i++) {
                reached[i] += c.reached[i];
            }
        }
        if (Arrays.stream(reached).anyMatch(count -> count == 0)) {
            wrong++;
            System.out.println("the random cases reach too little (stuck, pushed out, short, witnesses): "
                + Arrays.toString(reached));
        }
        heldLinesLoseNoneByNeed();
        if (wrong != 0) {
            System.out.println(wrong + " answers are not as due");
            System.exit(1);
        }
    }

    private static void due(String call, int got, int want) {
        if (got != want) {
            wrong++;
            if (wrong <= MOST_TOLD) {
                System.out.println(call + " answered " + got + ", due is " + want);
            }
        }
    }

    /** One random store with four rows of random letters, and its model. */
    private static final class Case {
        final LetterStore x = new LetterStore();
        final StoreModel m = new StoreModel();
        final Random r;
        final String name;
        /** So slow that runs of many letters for a held line come to tick 400. */
        final boolean slow;
        final int lines;
        final int[] reached = new int[4];

        Case(int seed) {
            r = Edges.randomOf(seed);
            name = "case " + seed + " ";
            slow = r.nextInt(8) == 0;
            lines = slow ? 2 : 1 + r.nextInt(4);
            int b = 1 + r.nextInt(12);
            int a = r.nextInt(3) == 0 ? 1 + r.nextInt(160) : 1 + r.nextInt(40);
            due(name + "room", x.room(12), m.room(12));
            due(name + "share", x.share(a), m.share(a));
            for (int line = 0; line < lines; line++) {
                setLine(line);
            }
            setParts(b);
            due(name + "room", x.room(b), m.room(b));
            for (int row = 0; row < 4; row++) {
                layRow(row);
            }
        }

        private void setLine(int line) {
            int kind = line == 0 ? 0 : r.nextInt(3);
            int mark = r.nextInt(13);
            int pace = slow ? 5 : r.nextInt(3) == 0 ? 1 : 1 + r.nextInt(5);
            int high = 1 + r.nextInt(slow || r.nextBoolean() ? 4 : 12);
            int low = slow ? 0 : r.nextInt(high);
            int lag = slow ? 5 : r.nextInt(6);
            if (line > 0) {
                due(name + "line", x.line(kind, mark), m.line(kind, mark));
            }
            due(name + "mark", x.mark(line, mark), m.mark(line, mark));
            due(name + "pace", x.pace(line, pace), m.pace(line, pace));
            due(name + "hold", x.hold(line, high, low, lag), m.hold(line, high, low, lag));
        }

        private void setParts(int most) {
            int free = most;
            for (int line = 0; line < lines; line++) {
                due(name + "part", x.part(line, 0), m.part(line, 0));
            }
            for (int line = 0; line < lines; line++) {
                int part = r.nextInt(Math.min(8, free + 1));
                due(name + "part", x.part(line, part), m.part(line, part));
                free -= m.told(line, 2);
            }
        }

        private void layRow(int row) {
            int n = slow ? 80 : r.nextInt(4) == 0 ? r.nextInt(81) : r.nextInt(25);
            int lastTick = r.nextInt(3) == 0 ? 40 : 1 + r.nextInt(12);
            int favourite = r.nextInt(lines);
            int[] ticks = r.ints(n, 0, lastTick).sorted().toArray();
            int lane = r.nextInt(3);
            int from = r.nextInt(161 - 2 * n);
            due(name + "sheet", x.sheet(row, lane, 160), m.sheet(row, lane, 160));
            for (int k = 0; k < n; k++) {
                int line = slow || r.nextInt(3) == 0 ? favourite : r.nextInt(lines);
                int i = from + 2 * k;
                due(name + "item", x.item(row, lane, i, ticks[k]), m.item(row, lane, i, ticks[k]));
                due(name + "item", x.item(row, lane, i + 1, line), m.item(row, lane, i + 1, line));
            }
            due(name + "letters", x.letters(row, row, lane, from, n), m.letters(row, row, lane, from, n));
            due(name + "letter", x.letter(row, -1, 0), n);
        }

        void checkRuns() {
            for (int row = 0; row < 4; row++) {
                for (int rule = 0; rule < 4; rule++) {
                    String run = name + "run(" + row + ", " + rule + ")";
                    due(run, x.run(row, rule), m.run(row, rule));
                    checkRun(run, m.letter(row, -1, 0));
                    reached[0] += m.sum(-1, 3);
                    reached[1] += m.sum(-1, 2);
                }
            }
        }

        private void checkRun(String run, int n) {
            due(run + " ticks", x.ticks(), m.ticks());
            for (int what = 0; what < 3; what++) {
                for (int k = 0; k < n; k++) {
                    due(run + " fate(" + k + ", " + what + ")", x.fate(k, what), m.fate(k, what));
                }
            }
            for (int line = -1; line < lines; line++) {
                for (int what = 0; what < 5; what++) {
                    due(run + " sum(" + line + ", " + what + ")", x.sum(line, what), m.sum(line, what));
                }
                for (int t = 0; t < 400; t++) {
                    due(run + " length(" + line + ", " + t + ")", x.length(line, t), m.length(line, t));
                }
            }
        }

        void checkForesight() {
            for (int row = 0; row < 4; row++) {
                due(name + "best(" + row + ")", x.best(row), m.best(row));
                for (int rule = 0; rule < 3; rule++) {
                    int want = m.shortBy(row, rule);
                    due(name + "shortBy(" + row + ", " + rule + ")", x.shortBy(row, rule), want);
                    reached[2] += rule == 2 ? want : 0;
                }
            }
        }

        void checkMarks() {
            for (int times = 0; times < 6; times++) {
                for (int row = 0; row < 4; row++) {
                    boolean is = r.nextBoolean();
                    due(name + "pass", x.pass(row, is), m.pass(row, is));
                }
                due(name + "marks()", x.marks(), m.marks());
                due(name + "witness()", x.witness(), m.witness());
                reached[3] += m.witness() >= 0 ? 1 : 0;
            }
        }
    }

    private static void heldLinesLoseNoneByNeed() {
        Random r = new Random(7);
        for (int i = 0; i < 300; i++) {
            LetterStore x = new LetterStore();
            x.room(12);
            x.line(2, 0);
            int high = 1 + r.nextInt(7);
            x.hold(1, high, r.nextInt(high), r.nextInt(6));
            x.pace(1, 1 + r.nextInt(5));
            due("part of need", x.part(1, x.told(1, 6)), 1);
            x.sheet(0, 0, 160);
            int tick = 0;
            for (int k = 0; k < 80; k++) {
                tick = Math.min(39, tick + r.nextInt(2));
                x.item(0, 0, 2 * k, tick);
                x.item(0, 0, 2 * k + 1, r.nextInt(2));
            }
            due("letters", x.letters(0, 0, 0, 0, 80), 80);
            x.run(0, 3);
            due("a part of need or more: none refused", x.sum(1, 1), 0);
        }
    }
}
