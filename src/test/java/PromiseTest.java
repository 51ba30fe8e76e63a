/** Each promise by hand-made calls: ordinary inputs, the edges that the document names, wrong inputs. */
public final class PromiseTest {
    private static final int BAD = -1, NOT = -2, FULL = -3, NULL = -11, CAST = -12, INDEX = -13, SIZE = -14;
    private static final int MIN = Integer.MIN_VALUE, MAX = Integer.MAX_VALUE;
    private static int wrong = 0;

    public static void main(String[] args) {
        newObject();
        room();
        line();
        mark();
        pace();
        part();
        hold();
        told();
        share();
        sheet();
        drop();
        item();
        copy();
        letters();
        lettersNotAsTold();
        clear();
        letter();
        runFixed();
        runShared();
        runPushed();
        runKept();
        runHeld();
        runHeldTwoLines();
        runStuck();
        fate();
        sum();
        length();
        ticks();
        best();
        shortBy();
        pass();
        marks();
        witness();
        if (wrong != 0) {
            System.out.println(wrong + " answers are not as due");
            System.exit(1);
        }
    }

    private static void due(String call, int got, int want) {
        if (got != want) {
            wrong++;
            System.out.println(call + " answered " + got + ", due is " + want);
        }
    }

    /** Puts letters (tick, line, tick, line, ..) behind a row, by sheet 3. */
    private static int lay(LetterStore x, int row, int... items) {
        x.sheet(3, 2, items.length);
        for (int i = 0; i < items.length; i++) {
            x.item(3, 2, i, items[i]);
        }
        return x.letters(row, 3, 2, 0, items.length / 2);
    }

    /** n letters of one tick and line behind a row. */
    private static void layMany(LetterStore x, int row, int n, int tick, int line) {
        int[] items = new int[2 * n];
        for (int k = 0; k < n; k++) {
            items[2 * k] = tick;
            items[2 * k + 1] = line;
        }
        due("letters", lay(x, row, items), x.letter(row, -1, 0));
    }

    private static void fates(String run, LetterStore x, int what, int... want) {
        for (int k = 0; k < want.length; k++) {
            due(run + ": fate(" + k + ", " + what + ")", x.fate(k, what), want[k]);
        }
        due(run + ": fate behind the last", x.fate(want.length, what), BAD);
    }

    private static void lengths(String run, LetterStore x, int line, int... want) {
        for (int t = 0; t < want.length; t++) {
            due(run + ": length(" + line + ", " + t + ")", x.length(line, t), want[t]);
        }
    }

    private static void newObject() {
        LetterStore x = new LetterStore();
        due("1 told(0, 0)", x.told(0, 0), 0);
        due("1 told(0, 1)", x.told(0, 1), 4);
        due("1 told(0, 7)", x.told(0, 7), 1);
        due("1 told(1, 0)", x.told(1, 0), BAD);
        for (int i = 0; i < 4; i++) {
            due("1 letter(i, -1, 0)", x.letter(i, -1, 0), 0);
            due("1 drop(i)", x.drop(i), NULL);
        }
        due("1 pass(0, false)", x.pass(0, false), 0);
        due("1 ticks()", x.ticks(), BAD);
        due("1 fate(0, 0)", x.fate(0, 0), BAD);
        due("1 sum(0, 0)", x.sum(0, 0), BAD);
        due("1 length(0, 0)", x.length(0, 0), BAD);
        due("1 witness()", x.witness(), -1);
        due("1 room(8)", x.room(8), 8);
        due("1 share(16)", x.share(16), 16);
    }

    private static void room() {
        LetterStore x = new LetterStore();
        for (int b : new int[] {0, 13, -1, MIN, MAX}) {
            due("2 room(" + b + ")", x.room(b), BAD);
        }
        due("2 room(1)", x.room(1), 8);
        due("2 room(12)", x.room(12), 1);
        x.line(1, 0);
        x.line(2, 0);
        x.part(1, 5);
        x.part(2, 3);
        due("2 room(7), parts are 8", x.room(7), BAD);
        due("2 room(8), parts are 8", x.room(8), 12);
        due("2 room(9)", x.room(9), 8);
    }

    private static void line() {
        LetterStore x = new LetterStore();
        due("3 line(-1, 0)", x.line(-1, 0), BAD);
        due("3 line(3, 0)", x.line(3, 0), BAD);
        due("3 line(0, -1)", x.line(0, -1), BAD);
        due("3 line(0, 13)", x.line(0, 13), BAD);
        due("3 line(2, 12)", x.line(2, 12), 1);
        due("3 told(1, 0)", x.told(1, 0), 2);
        due("3 told(1, 1)", x.told(1, 1), 12);
        due("3 told(1, 2)", x.told(1, 2), 1);
        due("3 room(1)", x.room(1), 8);
        due("3 line(1, 0): no room for its part", x.line(1, 0), NOT);
        due("3 line(2, 0): no room for its part", x.line(2, 0), NOT);
        due("3 line(1, 13): BAD ahead of NOT", x.line(1, 13), BAD);
        due("3 line(0, 0): it has no part", x.line(0, 0), 2);
        due("3 line(0, 0)", x.line(0, 0), 3);
        due("3 line(1, 0): NOT ahead of FULL", x.line(1, 0), NOT);
        due("3 line(0, 0): four are there", x.line(0, 0), FULL);
        due("3 line(0, 13): BAD ahead of FULL", x.line(0, 13), BAD);
        due("3 room(2)", x.room(2), 1);
        due("3 line(1, 0): four are there", x.line(1, 0), FULL);
    }

    private static void mark() {
        LetterStore x = new LetterStore();
        due("4 mark(0, 0)", x.mark(0, 0), 4);
        due("4 mark(0, 12)", x.mark(0, 12), 0);
        due("4 mark(0, 13)", x.mark(0, 13), BAD);
        due("4 mark(0, -1)", x.mark(0, -1), BAD);
        due("4 mark(1, 1)", x.mark(1, 1), BAD);
        due("4 mark(-1, 1)", x.mark(-1, 1), BAD);
        due("4 mark(MAX, 1)", x.mark(MAX, 1), BAD);
        due("4 told(0, 1)", x.told(0, 1), 12);
    }

    private static void pace() {
        LetterStore x = new LetterStore();
        due("5 pace(0, 5)", x.pace(0, 5), 1);
        due("5 pace(0, 6)", x.pace(0, 6), BAD);
        due("5 pace(0, 0)", x.pace(0, 0), BAD);
        due("5 pace(0, MIN)", x.pace(0, MIN), BAD);
        due("5 pace(1, 1)", x.pace(1, 1), BAD);
        due("5 pace(-1, 1)", x.pace(-1, 1), BAD);
        due("5 told(0, 7)", x.told(0, 7), 5);
        x.line(2, 1);
        due("5 pace(1, 3)", x.pace(1, 3), 1);
        due("5 told(1, 7)", x.told(1, 7), 3);
    }

    private static void part() {
        LetterStore x = new LetterStore();
        x.line(1, 0);
        x.line(2, 0);
        due("6 part(0, 1): no sure one", x.part(0, 1), CAST);
        due("6 part(0, 12): CAST ahead of NOT", x.part(0, 12), CAST);
        due("6 part(0, 13): BAD ahead of CAST", x.part(0, 13), BAD);
        due("6 part(0, -1): BAD ahead of CAST", x.part(0, -1), BAD);
        due("6 part(3, 1)", x.part(3, 1), BAD);
        due("6 part(-1, 1)", x.part(-1, 1), BAD);
        due("6 part(1, 8)", x.part(1, 8), NOT);
        due("6 part(1, 7)", x.part(1, 7), 1);
        due("6 part(2, 2)", x.part(2, 2), NOT);
        due("6 part(2, 0)", x.part(2, 0), 1);
        due("6 part(1, 8)", x.part(1, 8), 7);
        due("6 told(1, 2)", x.told(1, 2), 8);
        due("6 told(2, 2)", x.told(2, 2), 0);
    }

    private static void hold() {
        LetterStore x = new LetterStore();
        x.line(1, 0);
        x.line(2, 0);
        due("7 hold(0, 2, 1, 1)", x.hold(0, 2, 1, 1), CAST);
        due("7 hold(1, 2, 1, 1)", x.hold(1, 2, 1, 1), CAST);
        due("7 hold(1, 0, 0, 1): BAD ahead of CAST", x.hold(1, 0, 0, 1), BAD);
        due("7 hold(3, 2, 1, 1)", x.hold(3, 2, 1, 1), BAD);
        due("7 hold(2, 0, 0, 0)", x.hold(2, 0, 0, 0), BAD);
        due("7 hold(2, 13, 0, 0)", x.hold(2, 13, 0, 0), BAD);
        due("7 hold(2, MIN, 0, 0)", x.hold(2, MIN, 0, 0), BAD);
        due("7 hold(2, 3, 3, 0)", x.hold(2, 3, 3, 0), BAD);
        due("7 hold(2, 3, -1, 0)", x.hold(2, 3, -1, 0), BAD);
        due("7 hold(2, 3, 2, 6)", x.hold(2, 3, 2, 6), BAD);
        due("7 hold(2, 3, 2, -1)", x.hold(2, 3, 2, -1), BAD);
        due("7 told(2, 3)", x.told(2, 3), 2);
        due("7 hold(2, 12, 11, 5)", x.hold(2, 12, 11, 5), 1);
        due("7 told(2, 3)", x.told(2, 3), 12);
        due("7 told(2, 4)", x.told(2, 4), 11);
        due("7 told(2, 5)", x.told(2, 5), 5);
        due("7 hold(2, 1, 0, 0)", x.hold(2, 1, 0, 0), 1);
        due("7 told(2, 6)", x.told(2, 6), 1);
    }

    private static void told() {
        LetterStore x = new LetterStore();
        x.line(1, 3);
        x.line(2, 5);
        int[][] want = {{0, 4, 0, 0, 0, 0, 0, 1}, {1, 3, 1, 0, 0, 0, 0, 1}, {2, 5, 1, 2, 1, 1, 3, 1}};
        for (int line = 0; line < 3; line++) {
            for (int what = 0; what < 8; what++) {
                due("8 told(" + line + ", " + what + ")", x.told(line, what), want[line][what]);
            }
            due("8 told(line, 8)", x.told(line, 8), BAD);
            due("8 told(line, -1)", x.told(line, -1), BAD);
        }
        due("8 told(3, 0)", x.told(3, 0), BAD);
        due("8 told(-1, 0)", x.told(-1, 0), BAD);
    }

    private static void share() {
        LetterStore x = new LetterStore();
        due("9 share(0)", x.share(0), BAD);
        due("9 share(161)", x.share(161), BAD);
        due("9 share(160)", x.share(160), 16);
        due("9 share(1)", x.share(1), 160);
        due("9 share(16)", x.share(16), 1);
    }

    private static void sheet() {
        LetterStore x = new LetterStore();
        due("10 sheet(0, 0, 160)", x.sheet(0, 0, 160), 160);
        due("10 sheet(0, 0, 161)", x.sheet(0, 0, 161), BAD);
        due("10 sheet(0, 0, MAX)", x.sheet(0, 0, MAX), BAD);
        due("10 sheet(0, 0, -1)", x.sheet(0, 0, -1), SIZE);
        due("10 sheet(0, 0, MIN)", x.sheet(0, 0, MIN), SIZE);
        due("10 sheet(4, 0, -1): BAD ahead of SIZE", x.sheet(4, 0, -1), BAD);
        due("10 sheet(-1, 0, 1)", x.sheet(-1, 0, 1), BAD);
        due("10 sheet(0, 3, -1): BAD ahead of SIZE", x.sheet(0, 3, -1), BAD);
        due("10 sheet(0, -1, 1)", x.sheet(0, -1, 1), BAD);
        due("10 what answers so changes nothing", x.drop(0), 160);
        due("10 sheet(0, 2, 2)", x.sheet(0, 2, 2), 2);
        x.item(0, 2, 0, 7);
        due("10 sheet(0, 2, 2)", x.sheet(0, 2, 2), 2);
        x.letters(0, 0, 2, 0, 1);
        due("10 a new row has items 0", x.letter(0, 0, 0), 0);
        due("10 sheet(0, 1, 0)", x.sheet(0, 1, 0), 0);
        due("10 drop(0)", x.drop(0), 0);
    }

    private static void drop() {
        LetterStore x = new LetterStore();
        due("11 drop(3)", x.drop(3), NULL);
        due("11 drop(4)", x.drop(4), BAD);
        due("11 drop(-1)", x.drop(-1), BAD);
        x.sheet(3, 1, 5);
        due("11 drop(3)", x.drop(3), 5);
        due("11 drop(3)", x.drop(3), NULL);
        due("11 item(3, 1, 0, 0)", x.item(3, 1, 0, 0), NULL);
    }

    private static void item() {
        LetterStore x = new LetterStore();
        due("12 item(0, 3, 0, 0): BAD ahead of NULL", x.item(0, 3, 0, 0), BAD);
        due("12 item(0, -1, 0, 0)", x.item(0, -1, 0, 0), BAD);
        due("12 item(4, 0, 0, 0)", x.item(4, 0, 0, 0), BAD);
        due("12 item(0, 0, -1, 0): NULL ahead of INDEX", x.item(0, 0, -1, 0), NULL);
        for (int lane = 0; lane < 3; lane++) {
            x.sheet(lane, lane, 2);
            due("12 of another lane, CAST ahead of INDEX", x.item(lane, (lane + 1) % 3, 2, 0), CAST);
            due("12 i = 2 of 2", x.item(lane, lane, 2, 0), INDEX);
            due("12 i = -1", x.item(lane, lane, -1, 0), INDEX);
            due("12 i = MAX", x.item(lane, lane, MAX, 0), INDEX);
            due("12 i = 1", x.item(lane, lane, 1, 0), 1);
        }
        int[] bits = {8, 16, 32};
        for (int lane = 0; lane < 2; lane++) {
            due("12 its lowest bits", x.item(lane, lane, 0, (3 << bits[lane]) + 5), 1);
            due("12 its lowest bits are a letter's tick", x.letters(0, lane, lane, 0, 1), x.letter(0, -1, 0));
            due("12 tick 5", x.letter(0, lane, 0), 5);
            x.item(lane, lane, 0, (1 << bits[lane]) - 1);
            due("12 all lowest bits are -1", x.letters(0, lane, lane, 0, 1), NOT);
        }
        x.item(2, 2, 0, (1 << 16) + 5);
        due("12 an int keeps all bits", x.letters(0, 2, 2, 0, 1), NOT);
    }

    private static void copy() {
        LetterStore x = new LetterStore();
        due("13 copy(4, ..): BAD ahead of NULL", x.copy(4, 0, 0, 0, 0), BAD);
        due("13 copy(.., -1, ..)", x.copy(0, 0, -1, 0, 0), BAD);
        due("13 copy of nothing", x.copy(0, 0, 1, 0, 0), NULL);
        x.sheet(0, 0, 6);
        due("13 copy to nothing, NULL ahead of INDEX", x.copy(0, -1, 1, 0, 1), NULL);
        due("13 copy from nothing", x.copy(1, 0, 0, 0, 1), NULL);
        x.sheet(1, 1, 6);
        due("13 unlike lanes, CAST ahead of INDEX", x.copy(0, 9, 1, 0, 1), CAST);
        x.sheet(1, 0, 4);
        int[][] outside = {{-1, 0, 1}, {0, -1, 1}, {0, 0, -1}, {0, 0, 5}, {3, 0, 4}, {0, 1, 4}, {MAX, 0, 1},
            {0, MAX, 1}, {1, 1, MAX}, {MIN, 0, MIN}, {7, 0, 0}, {0, 5, 0}, {0, 0, MIN}};
        for (int[] at : outside) {
            due("13 copy(0, " + at[0] + ", 1, " + at[1] + ", " + at[2] + ")", x.copy(0, at[0], 1, at[1], at[2]), INDEX);
        }
        due("13 copy(0, 6, 1, 4, 0)", x.copy(0, 6, 1, 4, 0), 0);
        for (int i = 0; i < 6; i++) {
            x.item(0, 0, i, i / 2);
        }
        due("13 copy(0, 2, 1, 0, 4)", x.copy(0, 2, 1, 0, 4), 4);
        x.line(0, 0);
        x.line(0, 0);
        due("13 letters of what came", x.letters(0, 1, 0, 0, 2), 2);
        due("13 tick that came", x.letter(0, 0, 0), 1);
        due("13 line that came", x.letter(0, 1, 1), 2);
        copyWithinOne(1);
        copyWithinOne(-1);
    }

    /** Items 0 0 1 1 2 2 3 3 .. move by two places within one sheet, forth or back. */
    private static void copyWithinOne(int way) {
        LetterStore x = new LetterStore();
        x.sheet(0, 2, 20);
        for (int i = 0; i < 10; i++) {
            x.item(0, 2, 2 * i, i);
        }
        int from = way > 0 ? 0 : 4;
        int to = way > 0 ? 4 : 0;
        due("13 copy within one sheet", x.copy(0, from, 0, to, 16), 16);
        due("13 letters of it", x.letters(0, 0, 2, to, 8), 8);
        for (int k = 0; k < 8; k++) {
            due("13 tick " + k, x.letter(0, k, 0), from / 2 + k);
        }
    }

    private static void letters() {
        LetterStore x = new LetterStore();
        due("14 BAD ahead of NULL: row", x.letters(4, 0, 0, 0, 1), BAD);
        due("14 row -1", x.letters(-1, 0, 0, 0, 1), BAD);
        due("14 sheet 4", x.letters(0, 4, 0, 0, 1), BAD);
        due("14 lane 3", x.letters(0, 0, 3, 0, 1), BAD);
        due("14 n -1", x.letters(0, 0, 0, 0, -1), BAD);
        due("14 n 81", x.letters(0, 0, 0, 0, 81), BAD);
        due("14 NULL", x.letters(0, 0, 0, 0, 0), NULL);
        x.sheet(0, 1, 5);
        due("14 CAST ahead of INDEX", x.letters(0, 0, 0, 9, 1), CAST);
        due("14 INDEX: 4 and 2 of 5", x.letters(0, 0, 1, 4, 1), INDEX);
        due("14 INDEX: -1", x.letters(0, 0, 1, -1, 1), INDEX);
        due("14 INDEX: MAX", x.letters(0, 0, 1, MAX, 80), INDEX);
        due("14 three letters of 5 items", x.letters(0, 0, 1, 0, 3), INDEX);
        x.item(0, 1, 0, 99);
        due("14 INDEX ahead of NOT", x.letters(0, 0, 1, 0, 3), INDEX);
        due("14 from 3 on", x.letters(0, 0, 1, 3, 1), 1);
        due("14 from 1 on", x.letters(0, 0, 1, 1, 2), 3);
        due("14 none", x.letters(0, 0, 1, 5, 0), 3);
        x.sheet(0, 0, 160);
        due("14 FULL: 3 and 78", x.letters(0, 0, 0, 0, 78), FULL);
        due("14 3 and 77", x.letters(0, 0, 0, 0, 77), 80);
        due("14 none more of a full row", x.letters(0, 0, 0, 0, 0), 80);
        due("14 FULL", x.letters(0, 0, 0, 0, 1), FULL);
        x.item(0, 0, 159, 1);
        due("14 NOT ahead of FULL", x.letters(0, 0, 0, 0, 80), NOT);
        due("14 80 at once", x.letters(1, 0, 0, 0, 79), 79);
    }

    private static void lettersNotAsTold() {
        LetterStore x = new LetterStore();
        due("14 tick 40", lay(x, 0, 40, 0), NOT);
        due("14 tick -1", lay(x, 0, -1, 0), NOT);
        due("14 line -1", lay(x, 0, 0, -1), NOT);
        due("14 line 1 is not there", lay(x, 0, 0, 1), NOT);
        x.line(0, 0);
        due("14 line 1 came", lay(x, 0, 0, 1), 1);
        due("14 a lesser tick within", lay(x, 0, 5, 0, 4, 0), NOT);
        due("14 nothing came by that", x.letter(0, -1, 0), 1);
        due("14 tick 39", lay(x, 0, 5, 0, 5, 1, 39, 0), 4);
        due("14 a lesser tick than the row's last", lay(x, 0, 38, 0), NOT);
        due("14 the like tick", lay(x, 0, 39, 1), 5);
        due("14 another row", lay(x, 1, 38, 0), 1);
        due("14 the second one's line", lay(x, 1, 38, 0, 38, 2), NOT);
    }

    private static void clear() {
        LetterStore x = new LetterStore();
        due("15 clear(4)", x.clear(4), BAD);
        due("15 clear(-1)", x.clear(-1), BAD);
        lay(x, 2, 1, 0, 39, 0);
        due("15 pass", x.pass(2, true), 1);
        due("15 pass", x.pass(1, true), 2);
        due("15 clear(2)", x.clear(2), 2);
        due("15 not told to pass any more", x.pass(1, true), 1);
        due("15 it is empty", x.letter(2, -1, 0), 0);
        due("15 letter(2, 0, 0)", x.letter(2, 0, 0), BAD);
        due("15 a tick from 0 on again", lay(x, 2, 0, 0), 1);
        due("15 clear(2)", x.clear(2), 1);
        due("15 clear(2)", x.clear(2), 0);
    }

    private static void letter() {
        LetterStore x = new LetterStore();
        x.line(0, 1);
        lay(x, 3, 7, 1, 9, 0);
        due("16 letter(3, 0, 0)", x.letter(3, 0, 0), 7);
        due("16 letter(3, 0, 1)", x.letter(3, 0, 1), 1);
        due("16 letter(3, 1, 0)", x.letter(3, 1, 0), 9);
        due("16 letter(3, 1, 1)", x.letter(3, 1, 1), 0);
        due("16 letter(3, -1, MAX)", x.letter(3, -1, MAX), 2);
        due("16 letter(3, -2, 0)", x.letter(3, -2, 0), BAD);
        due("16 letter(3, 2, 0)", x.letter(3, 2, 0), BAD);
        due("16 letter(3, 0, 2)", x.letter(3, 0, 2), BAD);
        due("16 letter(3, 0, -1)", x.letter(3, 0, -1), BAD);
        due("16 letter(4, -1, 0)", x.letter(4, -1, 0), BAD);
        due("16 letter(-1, -1, 0)", x.letter(-1, -1, 0), BAD);
    }

    private static void runFixed() {
        LetterStore x = new LetterStore();
        due("17 run(4, 0)", x.run(4, 0), BAD);
        due("17 run(-1, 0)", x.run(-1, 0), BAD);
        due("17 run(0, 4)", x.run(0, 4), BAD);
        due("17 run(0, -1)", x.run(0, -1), BAD);
        due("17 BAD made no run", x.ticks(), BAD);
        x.room(3);
        x.mark(0, 2);
        x.line(0, 12);
        lay(x, 0, 0, 0, 0, 0, 0, 0, 0, 1, 0, 1, 1, 1);
        due("17 run(0, 0)", x.run(0, 0), 4);
        fates("17 fixed", x, 0, 0, 0, 1, 0, 1, 0);
        fates("17 fixed", x, 1, 0, 1, 0, 0, 0, 1);
        x.mark(0, 0);
        due("17 mark 0 refuses all", x.run(0, 0), 3);
        fates("17 mark 0", x, 0, 1, 1, 1, 0, 0, 0);
    }

    private static void runShared() {
        LetterStore x = new LetterStore();
        x.room(4);
        layMany(x, 0, 6, 0, 0);
        due("17 a 16: 0 < 4, 1 < 3, 2 = 2", x.run(0, 1), 2);
        x.share(17);
        due("17 a 17: 32 < 34, 48 > 17", x.run(0, 1), 3);
        x.share(48);
        due("17 a 48: 48 = 48", x.run(0, 1), 3);
        x.share(49);
        due("17 a 49: 48 < 49", x.run(0, 1), 4);
        x.share(160);
        due("17 a 160: none is free", x.run(0, 1), 4);
        x.share(1);
        due("17 a 1", x.run(0, 1), 1);
    }

    private static void runPushed() {
        LetterStore x = new LetterStore();
        x.room(5);
        x.line(0, 0);
        x.line(0, 0);
        lay(x, 0, 0, 0, 0, 0, 0, 1, 0, 1, 0, 1, 0, 2, 0, 2, 0, 2, 0, 0, 1, 0);
        due("17 run(0, 2)", x.run(0, 2), 6);
        fates("17 pushed", x, 0, 0, 0, 0, 0, 2, 0, 1, 1, 1, 0);
        fates("17 pushed", x, 1, 0, 1, 0, 1, 0, 0, 0, 0, 0, 2);
        fates("17 pushed", x, 2, -2, -2, -2, -2, 5, -2, -2, -2, -2, -2);
        due("17 sum(-1, 2)", x.sum(-1, 2), 1);
        due("17 sum(1, 2)", x.sum(1, 2), 1);
        due("17 sum(-1, 4)", x.sum(-1, 4), 5);
        due("17 sum(1, 4)", x.sum(1, 4), 3);
        LetterStore y = new LetterStore();
        y.room(4);
        y.line(0, 0);
        y.line(0, 0);
        lay(y, 0, 0, 0, 0, 0, 0, 1, 0, 1, 0, 2);
        due("17 of like ones the greatest number", y.run(0, 2), 4);
        fates("17 like ones", y, 2, -2, -2, -2, 4, -2);
    }

    private static void runKept() {
        LetterStore x = new LetterStore();
        x.room(5);
        x.line(1, 0);
        x.part(1, 3);
        lay(x, 0, 0, 0, 0, 0, 0, 0, 0, 1, 0, 1, 0, 1, 0, 1);
        due("17 run(0, 3)", x.run(0, 3), 5);
        fates("17 kept", x, 0, 0, 0, 1, 0, 0, 0, 1);
        fates("17 kept", x, 1, 0, 1, 0, 0, 1, 2, 0);
        lay(x, 1, 0, 1, 0, 1, 0, 1, 0, 1, 0, 1, 0, 1, 1, 0, 1, 0);
        due("17 more than its part", x.run(1, 3), 6);
        fates("17 more than its part", x, 0, 0, 0, 0, 0, 0, 1, 0, 1);
        x.part(1, 0);
        due("17 part 0", x.run(0, 3), 5);
        fates("17 part 0", x, 0, 0, 0, 0, 0, 0, 1, 1);
    }

    private static void runHeld() {
        LetterStore x = new LetterStore();
        x.room(6);
        x.line(2, 12);
        x.pace(1, 4);
        layMany(x, 0, 8, 0, 1);
        x.part(1, 3);
        due("17 held, lag 1", x.run(0, 3), 8);
        // HALT is told at the end of tick 1 and heard at tick 3; GO at the end of tick 7 is heard at tick 9.
        lengths("17 held, lag 1", x, 1, 1, 2, 3,
            2, 2, 2, 2, 1, 1, 2, 3, 2, 2, 2, 2, 1, 1, 2, 3, 2, 2, 2, 2, 1, 1, 2, 2, 1, 1, 1, 1, 0);
        due("17 held: none is refused", x.sum(1, 1), 0);
        x.hold(1, 2, 1, 0);
        x.part(1, 2);
        due("17 held, lag 0", x.run(0, 3), 8);
        lengths("17 held, lag 0", x, 1, 1, 2, 2, 1, 2, 2, 2, 1, 2);
        x.hold(1, 3, 0, 0);
        due("17 held, low 0", x.run(0, 3), 8);
        lengths("17 held, low 0", x, 1, 1, 2, 3, 2, 2, 2, 2, 1, 1, 1, 1, 0, 1, 2, 3, 2);
        x.mark(1, 1);
        due("17 held by rule 0, mark 1", x.run(0, 0), 2);
        fates("17 held by rule 0", x, 1, 3, 1, 2, 3, 7, 5, 6, 7);
        x.clear(0);
        lay(x, 0, 0, 0, 0, 0, 0, 1, 3, 1);
        x.room(2);
        x.part(1, 0);
        due("17 held letters come ahead of others", x.run(0, 3), 3);
        fates("17 held ahead", x, 0, 0, 1, 0, 0);
        fates("17 held waits for its tick", x, 1, 0, 0, 3, 7);
    }

    private static void runHeldTwoLines() {
        LetterStore x = new LetterStore();
        x.room(2);
        x.line(2, 12);
        x.line(2, 12);
        x.part(1, 0);
        x.part(2, 0);
        lay(x, 0, 0, 2, 0, 0, 0, 1, 1, 2);
        due("17 line by line, then the others", x.run(0, 3), 3);
        fates("17 line by line", x, 0, 0, 1, 0, 0);
        x.room(1);
        due("17 line 1 ahead of line 2", x.run(0, 3), 2);
        fates("17 line 1 ahead", x, 0, 1, 1, 0, 0);
        due("17 held as lines: in the row's order", x.shortBy(0, 2), 0);
    }

    private static LetterStore stuckStore() {
        LetterStore x = new LetterStore();
        x.line(2, 12);
        x.pace(1, 5);
        x.hold(1, 1, 0, 5);
        x.part(1, 6);
        layMany(x, 0, 80, 0, 1);
        return x;
    }

    /** Six letters come in each 30 ticks, but for what the end of the run cuts off. */
    private static void runStuck() {
        LetterStore x = stuckStore();
        int sent = x.run(0, 3);
        due("17 the run came to tick 400", x.ticks(), 400);
        due("17 none is refused", x.sum(-1, 1), 0);
        due("17 some are stuck", x.sum(-1, 3), 80 - sent);
        due("17 the last one is stuck", x.fate(79, 0), 3);
        due("17 stuck at 400", x.fate(79, 1), 400);
        due("17 stuck: none pushed it out", x.fate(79, 2), -2);
        int atEnd = x.length(1, 399);
        int as400 = 0;
        for (int k = 0; k < 80; k++) {
            if (x.fate(k, 0) == 0 && x.fate(k, 1) == 400) {
                as400++;
            }
        }
        due("17 what is in the store is as sent at tick 400", as400, atEnd);
        due("17 some were in the store", atEnd > 0 ? 1 : 0, 1);
        due("17 as lines it ends in time", x.shortBy(0, 2), 0);
        due("17 another run starts empty", x.run(1, 3), 0);
        due("17 it has no ticks", x.ticks(), 0);
        due("17 run again", x.run(0, 3), sent);
        due("17 the like end", x.length(1, 399), atEnd);
    }

    private static void fate() {
        LetterStore x = new LetterStore();
        x.room(1);
        lay(x, 0, 3, 0, 3, 0);
        x.run(0, 2);
        fates("18", x, 0, 0, 1);
        fates("18", x, 1, 3, 3);
        fates("18", x, 2, -2, -2);
        due("18 fate(-1, 0)", x.fate(-1, 0), BAD);
        due("18 fate(0, 3)", x.fate(0, 3), BAD);
        due("18 fate(0, -1)", x.fate(0, -1), BAD);
        x.clear(0);
        x.room(8);
        fates("18 stays behind clear", x, 0, 0, 1);
        x.run(0, 5);
        fates("18 stays behind a BAD run", x, 0, 0, 1);
        x.run(0, 0);
        fates("18 of an empty row", x, 0);
    }

    private static void sum() {
        LetterStore x = new LetterStore();
        x.room(3);
        x.line(0, 1);
        lay(x, 0, 0, 0, 0, 0, 0, 1, 0, 1, 1, 1, 1, 0);
        x.run(0, 0);
        int[][] want = {{5, 1, 0, 0, 3}, {3, 0, 0, 0, 2}, {2, 1, 0, 0, 1}};
        for (int line = -1; line < 2; line++) {
            for (int what = 0; what < 5; what++) {
                due("19 sum(" + line + ", " + what + ")", x.sum(line, what), want[line + 1][what]);
            }
        }
        due("19 sum(-2, 0)", x.sum(-2, 0), BAD);
        due("19 sum(2, 0)", x.sum(2, 0), BAD);
        due("19 sum(0, 5)", x.sum(0, 5), BAD);
        due("19 sum(0, -1)", x.sum(0, -1), BAD);
        x.line(0, 1);
        for (int what = 0; what < 5; what++) {
            due("19 a line that came since", x.sum(2, what), 0);
        }
        x.clear(0);
        due("19 stays behind clear", x.sum(1, 0), 2);
        x.run(0, 0);
        due("19 of an empty row", x.sum(-1, 4) + x.sum(0, 4) + x.sum(-1, 0), 0);
    }

    private static void length() {
        LetterStore x = new LetterStore();
        x.line(0, 12);
        x.pace(1, 2);
        lay(x, 0, 0, 1, 0, 1, 0, 0, 2, 1);
        x.run(0, 0);
        lengths("20", x, 0, 0, 0);
        lengths("20", x, 1, 2, 1, 2, 1, 1, 0, 0);
        due("20 length(1, 399)", x.length(1, 399), 0);
        due("20 length(1, 400)", x.length(1, 400), BAD);
        due("20 length(1, -1)", x.length(1, -1), BAD);
        due("20 length(2, 0)", x.length(2, 0), BAD);
        due("20 length(-1, 0)", x.length(-1, 0), BAD);
        x.line(0, 1);
        due("20 a line that came since", x.length(2, 0), 0);
        x.room(2);
        x.run(0, 2);
        lengths("20 pushed out", x, 1, 1, 0, 1, 0);
    }

    private static void ticks() {
        LetterStore x = new LetterStore();
        due("21 ahead of a run", x.ticks(), BAD);
        x.best(0);
        x.shortBy(0, 0);
        x.marks();
        due("21 foresight makes no run", x.ticks(), BAD);
        x.run(0, 0);
        due("21 of an empty row", x.ticks(), 0);
        x.mark(0, 0);
        lay(x, 0, 39, 0);
        x.run(0, 0);
        due("21 a last letter that is refused", x.ticks(), 40);
        x.mark(0, 2);
        x.pace(0, 3);
        x.run(0, 0);
        due("21 sent at tick 41", x.ticks(), 42);
    }

    private static void best() {
        LetterStore x = new LetterStore();
        due("22 best(-1)", x.best(-1), BAD);
        due("22 best(4)", x.best(4), BAD);
        due("22 of an empty row", x.best(3), 0);
        x.room(2);
        x.line(0, 0);
        layMany(x, 0, 5, 0, 0);
        due("22 room 2, one tick", x.best(0), 2);
        layMany(x, 0, 5, 1, 0);
        due("22 one more by each tick", x.best(0), 3);
        // Foresight takes one of line 0 at tick 0 only, so that line 1 has room for its letters.
        x.clear(0);
        x.pace(0, 5);
        lay(x, 0, 0, 0, 0, 0, 1, 1, 2, 1, 3, 1);
        due("22 by best foresight", x.best(0), 4);
        due("22 pushed loses none of that", x.shortBy(0, 2), 0);
        due("22 shared loses none of that", x.shortBy(0, 1), 0);
        x.mark(1, 12);
        due("22 fixed is short by 2", x.shortBy(0, 0), 2);
        x.clear(0);
        layMany(x, 0, 80, 0, 0);
        x.room(12);
        due("22 80 at once", x.best(0), 12);
    }

    private static void shortBy() {
        LetterStore x = new LetterStore();
        due("23 shortBy(4, 0)", x.shortBy(4, 0), BAD);
        due("23 shortBy(-1, 0)", x.shortBy(-1, 0), BAD);
        due("23 shortBy(0, 3)", x.shortBy(0, 3), BAD);
        due("23 shortBy(0, -1)", x.shortBy(0, -1), BAD);
        x.line(2, 1);
        layMany(x, 0, 4, 0, 1);
        lay(x, 1, 0, 0);
        x.run(1, 0);
        due("23 held as lines: one of four", x.shortBy(0, 0), 3);
        due("23 by rule 2", x.shortBy(0, 2), 0);
        due("23 the latest run stays", x.sum(-1, 0), 1);
        due("23 the latest run's ticks stay", x.ticks(), 1);
        due("23 a held sender sends one a tick", x.run(0, 0), 4);
    }

    private static void pass() {
        LetterStore x = new LetterStore();
        due("24 pass(4, true)", x.pass(4, true), BAD);
        due("24 pass(-1, false)", x.pass(-1, false), BAD);
        due("24 pass(3, true)", x.pass(3, true), 1);
        due("24 pass(3, true)", x.pass(3, true), 1);
        due("24 pass(0, true)", x.pass(0, true), 2);
        due("24 pass(1, false)", x.pass(1, false), 2);
        due("24 pass(3, false)", x.pass(3, false), 1);
        due("24 pass(0, false)", x.pass(0, false), 0);
    }

    private static void marks() {
        LetterStore x = new LetterStore();
        x.room(4);
        layMany(x, 0, 3, 0, 0);
        layMany(x, 1, 4, 0, 0);
        layMany(x, 2, 5, 0, 0);
        due("25 none is told to pass", x.marks(), 1);
        x.pass(0, true);
        due("25 32 < 2 a", x.marks(), 17);
        x.pass(1, true);
        due("25 48 < a", x.marks(), 49);
        due("25 it is not set", x.share(16), 16);
        x.pass(2, true);
        due("25 none is free", x.marks(), NOT);
        x.pass(2, false);
        due("25 not any more", x.marks(), 49);
        x.clear(1);
        due("25 cleared", x.marks(), 17);
        x.room(11);
        layMany(x, 3, 10, 0, 0);
        x.pass(3, true);
        due("25 144 < 2 a", x.marks(), 73);
        layMany(x, 3, 1, 0, 0);
        due("25 160 < a: no such a", x.marks(), NOT);
        x.room(12);
        due("25 160 < 2 a", x.marks(), 81);
        x.clear(3);
        x.line(2, 1);
        layMany(x, 3, 3, 0, 1);
        x.room(3);
        x.pass(3, true);
        x.pass(0, false);
        due("25 held as lines: 32 < a", x.marks(), 33);
    }

    private static void witness() {
        LetterStore x = new LetterStore();
        x.room(2);
        layMany(x, 1, 3, 0, 0);
        layMany(x, 2, 3, 0, 0);
        x.pass(0, true);
        x.pass(2, true);
        due("26 ahead of marks()", x.witness(), -1);
        due("26 marks()", x.marks(), NOT);
        due("26 witness()", x.witness(), 2);
        x.pass(1, true);
        due("26 by the latest marks()", x.witness(), 2);
        due("26 marks()", x.marks(), NOT);
        due("26 the first row", x.witness(), 1);
        x.clear(1);
        x.pass(2, false);
        due("26 stays till marks()", x.witness(), 1);
        due("26 marks()", x.marks(), 1);
        due("26 it told an a", x.witness(), -1);
    }
}
