import java.lang.reflect.Array;
import java.util.ArrayDeque;
import java.util.ArrayList;
import java.util.Arrays;
import java.util.Deque;
import java.util.HashMap;
import java.util.List;
import java.util.Map;

/**
 * The document once more, written apart from the class: slow, in the document's own order of words, and with real rows
 * of bytes, shorts and ints, so that what the machine finds is found by the machine.
 */
public final class StoreModel {
    private static final int BAD = -1, NOT = -2, FULL = -3, NULL = -11, CAST = -12, INDEX = -13, SIZE = -14;

    private static final class Line {
        final int kind;
        int mark;
        int pace = 1;
        int part;
        int high = 2;
        int low = 1;
        int lag = 1;

        Line(int kind, int mark) {
            this.kind = kind;
            this.mark = mark;
            part = kind == 0 ? 0 : 1;
        }
    }

    private int b = 8;
    private int a = 16;
    private final List<Line> lines = new ArrayList<>();
    private final Object[] sheets = new Object[4];
    /** Each letter is a TICK and a LINE. */
    private final List<List<int[]>> rows = new ArrayList<>();
    private final boolean[] passes = new boolean[4];
    private Played latest;
    private int witness = -1;

    public StoreModel() {
        lines.add(new Line(0, 4));
        for (int row = 0; row < 4; row++) {
            rows.add(new ArrayList<>());
        }
    }

    private static boolean in(int least, int number, int most) {
        return least <= number && number <= most;
    }

    private boolean isLine(int line) {
        return in(0, line, lines.size() - 1);
    }

    private int partsWith(int line, int part) {
        int all = line < lines.size() ? 0 : part;
        for (int i = 0; i < lines.size(); i++) {
            all += i == line ? part : lines.get(i).part;
        }
        return all;
    }

    public int room(int newB) {
        if (!in(1, newB, 12) || lines.stream().mapToInt(line -> line.part).sum() > newB) {
            return BAD;
        }
        int was = b;
        b = newB;
        return was;
    }

    public int line(int kind, int mark) {
        if (!in(0, kind, 2) || !in(0, mark, 12)) {
            return BAD;
        }
        if (kind > 0 && partsWith(lines.size(), 1) > b) {
            return NOT;
        }
        if (lines.size() == 4) {
            return FULL;
        }
        lines.add(new Line(kind, mark));
        return lines.size() - 1;
    }

    public int mark(int line, int mark) {
        if (!isLine(line) || !in(0, mark, 12)) {
            return BAD;
        }
        int was = lines.get(line).mark;
        lines.get(line).mark = mark;
        return was;
    }

    public int pace(int line, int pace) {
        if (!isLine(line) || !in(1, pace, 5)) {
            return BAD;
        }
        int was = lines.get(line).pace;
        lines.get(line).pace = pace;
        return was;
    }

    public int part(int line, int part) {
        if (!isLine(line) || !in(0, part, 12)) {
            return BAD;
        }
        if (lines.get(line).kind == 0) {
            return CAST;
        }
        if (partsWith(line, part) > b) {
            return NOT;
        }
        int was = lines.get(line).part;
        lines.get(line).part = part;
        return was;
    }

    public int hold(int line, int high, int low, int lag) {
        if (!isLine(line) || !in(1, high, 12) || !in(0, low, 11) || low >= high || !in(0, lag, 5)) {
            return BAD;
        }
        if (lines.get(line).kind != 2) {
            return CAST;
        }
        lines.get(line).high = high;
        lines.get(line).low = low;
        lines.get(line).lag = lag;
        return 1;
    }

    public int told(int line, int what) {
        if (!isLine(line) || !in(0, what, 7)) {
            return BAD;
        }
        Line of = lines.get(line);
        int[] all = {of.kind, of.mark, of.part, of.high, of.low, of.lag, of.high + of.lag, of.pace};
        return in(3, what, 6) && of.kind != 2 ? 0 : all[what];
    }

    public int share(int newA) {
        if (!in(1, newA, 160)) {
            return BAD;
        }
        int was = a;
        a = newA;
        return was;
    }

    public int sheet(int sheet, int lane, int n) {
        if (!in(0, sheet, 3) || !in(0, lane, 2) || n > 160) {
            return BAD;
        }
        try {
            sheets[sheet] = lane == 0 ? new byte[n] : lane == 1 ? new short[n] : new int[n];
            return n;
        } catch (NegativeArraySizeException found) {
            return SIZE;
        }
    }

    public int drop(int sheet) {
        if (!in(0, sheet, 3)) {
            return BAD;
        }
        if (sheets[sheet] == null) {
            return NULL;
        }
        int had = Array.getLength(sheets[sheet]);
        sheets[sheet] = null;
        return had;
    }

    public int item(int sheet, int lane, int i, int v) {
        if (!in(0, sheet, 3) || !in(0, lane, 2)) {
            return BAD;
        }
        try {
            if (lane == 0) {
                ((byte[]) sheets[sheet])[i] = (byte) v;
            } else if (lane == 1) {
                ((short[]) sheets[sheet])[i] = (short) v;
            } else {
                ((int[]) sheets[sheet])[i] = v;
            }
            return 1;
        } catch (NullPointerException found) {
            return NULL;
        } catch (ClassCastException found) {
            return CAST;
        } catch (ArrayIndexOutOfBoundsException found) {
            return INDEX;
        }
    }

    public int copy(int from, int i, int to, int j, int n) {
        if (!in(0, from, 3) || !in(0, to, 3)) {
            return BAD;
        }
        return machineCopy(sheets[from], i, sheets[to], j, n);
    }

    private static int machineCopy(Object from, int i, Object to, int j, int n) {
        try {
            System.arraycopy(from, i, to, j, n);
            return n;
        } catch (NullPointerException found) {
            return NULL;
        } catch (ArrayStoreException found) {
            return CAST;
        } catch (ArrayIndexOutOfBoundsException found) {
            return INDEX;
        }
    }

    public int letters(int row, int sheet, int lane, int from, int n) {
        if (!in(0, row, 3) || !in(0, sheet, 3) || !in(0, lane, 2) || !in(0, n, 80)) {
            return BAD;
        }
        Object items = lane == 0 ? new byte[2 * n] : lane == 1 ? new short[2 * n] : new int[2 * n];
        int found = machineCopy(sheets[sheet], from, items, 0, 2 * n);
        if (found < 0) {
            return found;
        }
        List<int[]> all = new ArrayList<>(rows.get(row));
        for (int k = 0; k < n; k++) {
            int tick = Array.getInt(items, 2 * k);
            int line = Array.getInt(items, 2 * k + 1);
            boolean isLess = !all.isEmpty() && tick < all.get(all.size() - 1)[0];
            if (!in(0, tick, 39) || isLess || !isLine(line)) {
                return NOT;
            }
            all.add(new int[] {tick, line});
        }
        if (all.size() > 80) {
            return FULL;
        }
        rows.set(row, all);
        return all.size();
    }

    public int clear(int row) {
        if (!in(0, row, 3)) {
            return BAD;
        }
        passes[row] = false;
        return rows.set(row, new ArrayList<>()).size();
    }

    public int letter(int row, int k, int what) {
        if (!in(0, row, 3)) {
            return BAD;
        }
        if (k == -1) {
            return rows.get(row).size();
        }
        if (!in(0, k, rows.get(row).size() - 1) || !in(0, what, 1)) {
            return BAD;
        }
        return rows.get(row).get(k)[what];
    }

    public int run(int row, int rule) {
        if (!in(0, row, 3) || !in(0, rule, 3)) {
            return BAD;
        }
        latest = new Played(row, rule, a, true);
        return latest.count(-1, 0);
    }

    public int fate(int k, int what) {
        if (latest == null || !in(0, k, latest.letters.size() - 1) || !in(0, what, 2)) {
            return BAD;
        }
        return what == 0 ? latest.fate[k] : what == 1 ? latest.when[k] : latest.by[k];
    }

    public int sum(int line, int what) {
        if (latest == null || line != -1 && !isLine(line) || !in(0, what, 4)) {
            return BAD;
        }
        return what < 4 ? latest.count(line, what) : latest.peak[line + 1];
    }

    public int length(int line, int tick) {
        if (latest == null || !isLine(line) || !in(0, tick, 399)) {
            return BAD;
        }
        return tick < latest.lengths.size() ? latest.lengths.get(tick)[line] : 0;
    }

    public int ticks() {
        return latest == null ? BAD : latest.lengths.size();
    }

    public int best(int row) {
        return in(0, row, 3) ? bestOfAllChoices(rows.get(row)) : BAD;
    }

    /** The most letters taken for each tuple of lengths that some choice of letters can lead to. */
    private int bestOfAllChoices(List<int[]> letters) {
        Map<List<Integer>, Integer> reached = new HashMap<>();
        reached.put(List.of(0, 0, 0, 0), 0);
        int k = 0;
        for (int t = 0; t < 40; t++) {
            for (; k < letters.size() && letters.get(k)[0] == t; k++) {
                reached = takenOrNot(reached, letters.get(k)[1]);
            }
            Map<List<Integer>, Integer> next = new HashMap<>();
            for (Map.Entry<List<Integer>, Integer> e : reached.entrySet()) {
                List<Integer> less = new ArrayList<>(e.getKey());
                for (int l = 0; l < lines.size(); l++) {
                    if (less.get(l) > 0 && (t + 1) % lines.get(l).pace == 0) {
                        less.set(l, less.get(l) - 1);
                    }
                }
                next.merge(less, e.getValue(), Math::max);
            }
            reached = next;
        }
        return reached.values().stream().mapToInt(Integer::intValue).max().orElse(0);
    }

    private Map<List<Integer>, Integer> takenOrNot(Map<List<Integer>, Integer> reached, int line) {
        Map<List<Integer>, Integer> next = new HashMap<>(reached);
        for (Map.Entry<List<Integer>, Integer> e : reached.entrySet()) {
            List<Integer> more = new ArrayList<>(e.getKey());
            more.set(line, more.get(line) + 1);
            if (more.stream().mapToInt(Integer::intValue).sum() <= b) {
                next.merge(more, e.getValue() + 1, Math::max);
            }
        }
        return next;
    }

    public int shortBy(int row, int rule) {
        if (!in(0, row, 3) || !in(0, rule, 2)) {
            return BAD;
        }
        return best(row) - new Played(row, rule, a, false).count(-1, 0);
    }

    public int pass(int row, boolean is) {
        if (!in(0, row, 3)) {
            return BAD;
        }
        passes[row] = is;
        int all = 0;
        for (boolean each : passes) {
            all += each ? 1 : 0;
        }
        return all;
    }

    public int marks() {
        witness = -1;
        for (int each = 1; each <= 160; each++) {
            boolean allPass = true;
            for (int row = 0; row < 4; row++) {
                allPass = allPass && (!passes[row] || refusesNone(row, each));
            }
            if (allPass) {
                return each;
            }
        }
        for (int row = 3; row >= 0; row--) {
            witness = passes[row] && hasNoneAlone(row) ? row : witness;
        }
        return NOT;
    }

    private boolean refusesNone(int row, int byA) {
        return new Played(row, 1, byA, false).count(-1, 1) == 0;
    }

    private boolean hasNoneAlone(int row) {
        for (int each = 1; each <= 160; each++) {
            if (refusesNone(row, each)) {
                return false;
            }
        }
        return true;
    }

    public int witness() {
        return witness;
    }

    /** A RUN. */
    private final class Played {
        final List<int[]> letters;
        final int rule;
        final int byA;
        final boolean heldWait;
        final int[] fate;
        final int[] when;
        final int[] by;
        /** Of all together, then of each LINE. */
        final int[] peak = new int[5];
        final List<int[]> lengths = new ArrayList<>();
        final List<Deque<Integer>> store = new ArrayList<>();
        final List<Deque<Integer>> sender = new ArrayList<>();
        final List<List<Boolean>> toldHalt = new ArrayList<>();

        Played(int row, int rule, int byA, boolean heldWait) {
            letters = List.copyOf(rows.get(row));
            this.rule = rule;
            this.byA = byA;
            this.heldWait = heldWait;
            fate = new int[letters.size()];
            when = new int[letters.size()];
            by = new int[letters.size()];
            Arrays.fill(by, -2);
            for (int l = 0; l < 4; l++) {
                store.add(new ArrayDeque<>());
                sender.add(new ArrayDeque<>());
                toldHalt.add(new ArrayList<>());
            }
            play();
        }

        private void play() {
            for (int t = 0; t < 400 && goesOn(t); t++) {
                heldSend(t);
                for (int k = 0; k < letters.size(); k++) {
                    if (letters.get(k)[0] == t && !waits(k)) {
                        come(k, t);
                    }
                }
                endTick(t);
            }
            for (int l = 0; l < 4; l++) {
                for (int k : store.get(l)) {
                    set(k, 0, 400);
                }
                for (int k : sender.get(l)) {
                    set(k, 3, 400);
                }
            }
        }

        private boolean goesOn(int t) {
            boolean any = !letters.isEmpty() && letters.get(letters.size() - 1)[0] >= t;
            for (int l = 0; l < 4; l++) {
                any |= !store.get(l).isEmpty() || !sender.get(l).isEmpty();
            }
            return any;
        }

        private boolean waits(int k) {
            return heldWait && lines.get(letters.get(k)[1]).kind == 2;
        }

        private void heldSend(int t) {
            for (int k = 0; k < letters.size(); k++) {
                if (letters.get(k)[0] == t && waits(k)) {
                    sender.get(letters.get(k)[1]).addLast(k);
                }
            }
            for (int l = 0; l < lines.size(); l++) {
                int heard = t - 1 - lines.get(l).lag;
                boolean halted = heard >= 0 && toldHalt.get(l).get(heard);
                if (!sender.get(l).isEmpty() && !halted) {
                    come(sender.get(l).removeFirst(), t);
                }
            }
        }

        private void endTick(int t) {
            int[] now = new int[4];
            for (int l = 0; l < lines.size(); l++) {
                Line line = lines.get(l);
                if (!store.get(l).isEmpty() && (t + 1) % line.pace == 0) {
                    set(store.get(l).removeFirst(), 0, t);
                }
                now[l] = store.get(l).size();
                boolean asItWas = t > 0 && toldHalt.get(l).get(t - 1);
                toldHalt.get(l).add(now[l] >= line.high || now[l] > line.low && asItWas);
            }
            lengths.add(now);
        }

        private void set(int k, int what, int t) {
            fate[k] = what;
            when[k] = t;
        }

        private int together() {
            int all = 0;
            for (Deque<Integer> each : store) {
                all += each.size();
            }
            return all;
        }

        private void come(int k, int t) {
            if (isTaken(k, t)) {
                store.get(letters.get(k)[1]).addLast(k);
            } else {
                set(k, 1, t);
            }
            peak[0] = Math.max(peak[0], together());
            for (int l = 0; l < 4; l++) {
                peak[l + 1] = Math.max(peak[l + 1], store.get(l).size());
            }
        }

        private boolean isTaken(int k, int t) {
            Line line = lines.get(letters.get(k)[1]);
            int x = store.get(letters.get(k)[1]).size();
            int free = b - together();
            switch (rule) {
                case 0:
                    return x < line.mark && free > 0;
                case 1:
                    return 16 * x < byA * free && free > 0;
                case 2:
                    return free > 0 || pushes(k, x, t);
                default:
                    return line.kind > 0 && x < line.part || isRoomBeside();
            }
        }

        private boolean pushes(int k, int x, int t) {
            int longest = lines.size() - 1;
            for (int l = longest; l >= 0; l--) {
                longest = store.get(l).size() > store.get(longest).size() ? l : longest;
            }
            if (store.get(longest).size() <= x + 1) {
                return false;
            }
            int out = store.get(longest).removeLast();
            set(out, 2, t);
            by[out] = k;
            return true;
        }

        private boolean isRoomBeside() {
            int counted = 0;
            for (int l = 0; l < lines.size(); l++) {
                int length = store.get(l).size();
                counted += lines.get(l).kind > 0 ? Math.max(length, lines.get(l).part) : length;
            }
            return counted < b;
        }

        int count(int line, int what) {
            int all = 0;
            for (int k = 0; k < letters.size(); k++) {
                all += fate[k] == what && (line == -1 || letters.get(k)[1] == line) ? 1 : 0;
            }
            return all;
        }
    }
}
