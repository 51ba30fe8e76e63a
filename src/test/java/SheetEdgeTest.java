/** Sheets and rows, promises 10 to 16: each sentence that names a boundary has a test of its own here. */
public final class SheetEdgeTest {
    private static final int BAD = Edges.BAD, NOT = Edges.NOT, FULL = Edges.FULL, NULL = Edges.NULL;
    private static final int CAST = Edges.CAST, INDEX = Edges.INDEX, SIZE = Edges.SIZE;
    private static final int MIN = Edges.MIN, MAX = Edges.MAX;

    public static void main(String[] args) {
        sheetsAtFirst();
        sheetNumbers();
        sheetLanes();
        sheetSizes();
        sheetBelowZero();
        sheetItemsAtFirst();
        dropGivesSize();
        dropOfNothing();
        itemLowestBitsOfBytes();
        itemLowestBitsOfShorts();
        itemAllBitsOfInts();
        itemIndex();
        itemOrder();
        copyWithinBounds();
        copyOutside();
        copyWithinOneSheet();
        copyToAnother();
        copyOfLanes();
        copyOrder();
        rowsAtFirst();
        rowTicks();
        rowTicksNotLess();
        rowLines();
        rowOfEighty();
        lettersFrom();
        lettersNumber();
        lettersIndex();
        lettersOrder();
        clearRow();
        letterBounds();
        Edges.end();
    }

    private static void due(String call, int got, int want) {
        Edges.due(call, got, want);
    }

    /** Item i, read as the tick of a letter that is laid in row 0, the item behind it as its line. */
    private static int tickRead(LetterStore x, int sheet, int lane, int i) {
        x.clear(0);
        int laid = x.letters(0, sheet, lane, i, 1);
        return laid == 1 ? x.letter(0, 0, 0) : laid;
    }

    private static void sheetsAtFirst() {
        Edges.sentence("SHEETS 0 .. 3 hold nothing (at first)");
        LetterStore x = new LetterStore();
        for (int sheet = 0; sheet < 4; sheet++) {
            due("drop", x.drop(sheet), NULL);
            due("item", x.item(sheet, 0, 0, 0), NULL);
            due("copy from it", x.copy(sheet, 0, sheet, 0, 0), NULL);
            due("letters from it", x.letters(0, sheet, 0, 0, 0), NULL);
        }
    }

    private static void sheetNumbers() {
        Edges.sentence("A SHEET holds a new row of a LANE: n. BAD");
        LetterStore x = new LetterStore();
        for (int sheet = 0; sheet < 4; sheet++) {
            due("sheet(" + sheet + ", 0, 5)", x.sheet(sheet, 0, 5 + sheet), 5 + sheet);
        }
        for (int sheet : new int[] {-1, 4, MIN, MAX}) {
            due("sheet(" + sheet + ", 0, 5)", x.sheet(sheet, 0, 5), BAD);
            due("drop(" + sheet + ")", x.drop(sheet), BAD);
            due("item(" + sheet + ", 0, 0, 0)", x.item(sheet, 0, 0, 0), BAD);
            due("copy from " + sheet, x.copy(sheet, 0, 0, 0, 1), BAD);
            due("copy to " + sheet, x.copy(0, 0, sheet, 0, 1), BAD);
            due("letters from " + sheet, x.letters(0, sheet, 0, 0, 1), BAD);
        }
        for (int sheet = 0; sheet < 4; sheet++) {
            due("each is one of its own", x.drop(sheet), 5 + sheet);
        }
    }

    private static void sheetLanes() {
        Edges.sentence("or a row of a LANE: 0 bytes, 1 shorts, 2 ints");
        LetterStore x = new LetterStore();
        for (int lane = 0; lane < 3; lane++) {
            due("sheet(0, " + lane + ", 2)", x.sheet(0, lane, 2), 2);
            for (int as = 0; as < 3; as++) {
                due("item as a row of lane " + as, x.item(0, as, 0, 0), as == lane ? 1 : CAST);
                due("letters as a row of lane " + as, x.letters(0, 0, as, 0, 0), as == lane ? 0 : CAST);
            }
        }
        for (int lane : new int[] {-1, 3, MIN, MAX}) {
            due("sheet(0, " + lane + ", 2)", x.sheet(0, lane, 2), BAD);
            due("item(0, " + lane + ", 0, 0)", x.item(0, lane, 0, 0), BAD);
            due("letters(0, 0, " + lane + ", 0, 0)", x.letters(0, 0, lane, 0, 0), BAD);
        }
    }

    private static void sheetSizes() {
        Edges.sentence("of 0 to 160 items (.. BAD: also n above 160)");
        LetterStore x = new LetterStore();
        for (int lane = 0; lane < 3; lane++) {
            due("sheet of 0", x.sheet(1, lane, 0), 0);
            due("none is there", x.item(1, lane, 0, 0), INDEX);
            due("drop of 0", x.drop(1), 0);
            due("sheet of 160", x.sheet(1, lane, 160), 160);
            due("the last one", x.item(1, lane, 159, 0), 1);
            due("sheet of 161", x.sheet(1, lane, 161), BAD);
            due("sheet of MAX", x.sheet(1, lane, MAX), BAD);
            due("that of 160 is still there", x.drop(1), 160);
        }
    }

    private static void sheetBelowZero() {
        Edges.sentence("SIZE: n below 0");
        LetterStore x = new LetterStore();
        x.sheet(0, 1, 7);
        for (int n : new int[] {-1, -2, -161, MIN}) {
            due("sheet(0, 0, " + n + ")", x.sheet(0, 0, n), SIZE);
            due("BAD ahead of SIZE: sheet", x.sheet(4, 0, n), BAD);
            due("BAD ahead of SIZE: lane", x.sheet(0, 3, n), BAD);
        }
        due("what was there is there", x.item(0, 1, 6, 0), 1);
        due("drop(0)", x.drop(0), 7);
        due("a SHEET that held nothing", x.sheet(0, 0, -1), SIZE);
        due("still holds nothing", x.drop(0), NULL);
    }

    private static void sheetItemsAtFirst() {
        Edges.sentence("of 0 to 160 items (0 at first)");
        LetterStore x = new LetterStore();
        for (int lane = 0; lane < 3; lane++) {
            x.clear(0);
            due("160 items", x.sheet(0, lane, 160), 160);
            due("80 letters", x.letters(0, 0, lane, 0, 80), 80);
            due("the last one's tick", x.letter(0, 79, 0), 0);
            due("the last one's line", x.letter(0, 79, 1), 0);
            x.item(0, lane, 0, 9);
            x.item(0, lane, 158, 9);
            due("a new row of the like lane", x.sheet(0, lane, 160), 160);
            due("what was there is gone: the first", tickRead(x, 0, lane, 0), 0);
            due("what was there is gone: the last", tickRead(x, 0, lane, 158), 0);
            x.item(0, lane, 158, 9);
            x.sheet(0, lane, 2);
            due("it is as short as told", tickRead(x, 0, lane, 158), INDEX);
            x.sheet(0, lane, 160);
            due("what was there ahead of a shorter one is gone", tickRead(x, 0, lane, 158), 0);
            x.item(0, lane, 158, 9);
            x.drop(0);
            x.sheet(0, lane, 160);
            due("what was dropped is gone", tickRead(x, 0, lane, 158), 0);
        }
    }

    private static void dropGivesSize() {
        Edges.sentence("A SHEET holds nothing: how many items it had.");
        LetterStore x = new LetterStore();
        for (int n : new int[] {0, 1, 159, 160}) {
            x.sheet(2, 1, n);
            due("drop of " + n, x.drop(2), n);
            due("drop again", x.drop(2), NULL);
        }
    }

    private static void dropOfNothing() {
        Edges.sentence("A SHEET holds nothing: .. BAD; NULL.");
        LetterStore x = new LetterStore();
        x.sheet(1, 0, 2);
        due("drop(0)", x.drop(0), NULL);
        due("drop(4)", x.drop(4), BAD);
        due("drop(-1)", x.drop(-1), BAD);
        due("drop(1)", x.drop(1), 2);
        due("item of what was dropped", x.item(1, 0, 0, 0), NULL);
        due("letters of what was dropped", x.letters(0, 1, 0, 0, 1), NULL);
        due("copy of what was dropped", x.copy(1, 0, 1, 0, 1), NULL);
    }

    private static void itemLowestBitsOfBytes() {
        Edges.sentence("Item i of a SHEET, taken as a row of a LANE, becomes v, its lowest bits (bytes)");
        LetterStore x = new LetterStore();
        x.sheet(0, 0, 2);
        int[][] becomes = {{256 + 5, 5}, {-256 + 39, 39}, {65536 + 256, 0}, {MIN, 0}, {MIN + 7, 7},
            {256 + 40, NOT}, {127, NOT}, {128, NOT}, {255, NOT}, {-1, NOT}, {MAX, NOT}, {39, 39}, {0, 0}};
        for (int[] each : becomes) {
            due("item(0, 0, 0, " + each[0] + ")", x.item(0, 0, 0, each[0]), 1);
            due("its lowest 8 bits of " + each[0], tickRead(x, 0, 0, 0), each[1]);
        }
        x.line(0, 1);
        due("a line's item", x.item(0, 0, 1, 256 + 1), 1);
        x.item(0, 0, 0, 4);
        due("tick 4", tickRead(x, 0, 0, 0), 4);
        due("line 1", x.letter(0, 0, 1), 1);
    }

    private static void itemLowestBitsOfShorts() {
        Edges.sentence("Item i of a SHEET, taken as a row of a LANE, becomes v, its lowest bits (shorts)");
        LetterStore x = new LetterStore();
        x.sheet(0, 1, 2);
        int[][] becomes = {{65536 + 5, 5}, {-65536 + 39, 39}, {MIN, 0}, {MIN + 7, 7}, {256 + 5, NOT},
            {65536 + 40, NOT}, {32767, NOT}, {32768, NOT}, {65535, NOT}, {-1, NOT}, {MAX, NOT}, {39, 39}, {0, 0}};
        for (int[] each : becomes) {
            due("item(0, 1, 0, " + each[0] + ")", x.item(0, 1, 0, each[0]), 1);
            due("its lowest 16 bits of " + each[0], tickRead(x, 0, 1, 0), each[1]);
        }
    }

    private static void itemAllBitsOfInts() {
        Edges.sentence("Item i of a SHEET, taken as a row of a LANE, becomes v, its lowest bits (ints)");
        LetterStore x = new LetterStore();
        x.sheet(0, 2, 2);
        int[][] becomes = {{256 + 5, NOT}, {65536 + 5, NOT}, {MIN, NOT}, {MIN + 7, NOT}, {MAX, NOT}, {-1, NOT},
            {40, NOT}, {39, 39}, {0, 0}};
        for (int[] each : becomes) {
            due("item(0, 2, 0, " + each[0] + ")", x.item(0, 2, 0, each[0]), 1);
            due("all bits of " + each[0], tickRead(x, 0, 2, 0), each[1]);
        }
    }

    private static void itemIndex() {
        Edges.sentence("Item i of a SHEET .. BAD; NULL; CAST; INDEX.");
        LetterStore x = new LetterStore();
        for (int lane = 0; lane < 3; lane++) {
            x.sheet(lane, lane, 3);
            due("the first", x.item(lane, lane, 0, 1), 1);
            due("the last", x.item(lane, lane, 2, 1), 1);
            for (int i : new int[] {-1, 3, 4, 160, MIN, MAX}) {
                due("item " + i + " of 3", x.item(lane, lane, i, 1), INDEX);
            }
        }
    }

    private static void itemOrder() {
        Edges.sentence("Answers below 0, of several the first that a call names (item: BAD; NULL; CAST; INDEX)");
        LetterStore x = new LetterStore();
        x.sheet(1, 1, 3);
        due("lane 3 of nothing", x.item(0, 3, 9, 0), BAD);
        due("sheet 4, lane 3", x.item(4, 3, 9, 0), BAD);
        due("lane 3 of another lane, i outside", x.item(1, 3, 9, 0), BAD);
        due("nothing, i outside", x.item(0, 0, -1, 0), NULL);
        due("another lane, i outside", x.item(1, 0, 3, 0), CAST);
        due("another lane, i within", x.item(1, 2, 2, 0), CAST);
        due("its lane, i outside", x.item(1, 1, 3, 0), INDEX);
    }

    private static void copyWithinBounds() {
        Edges.sentence("n items of a SHEET from i on come to another one (or the same) from j on: n");
        LetterStore x = new LetterStore();
        x.sheet(0, 2, 160);
        x.sheet(1, 2, 160);
        x.sheet(2, 2, 0);
        due("all of them", x.copy(0, 0, 1, 0, 160), 160);
        due("all onto themselves", x.copy(0, 0, 0, 0, 160), 160);
        due("the last one", x.copy(0, 159, 1, 159, 1), 1);
        due("none at the end", x.copy(0, 160, 1, 160, 0), 0);
        due("none at the start", x.copy(0, 0, 1, 0, 0), 0);
        due("none of an empty one", x.copy(2, 0, 2, 0, 0), 0);
        due("none to an empty one", x.copy(0, 160, 2, 0, 0), 0);
        due("one of an empty one", x.copy(2, 0, 0, 0, 1), INDEX);
        due("one to an empty one", x.copy(0, 0, 2, 0, 1), INDEX);
    }

    private static void copyOutside() {
        Edges.sentence("n items of a SHEET from i on come to another one .. INDEX.");
        LetterStore x = new LetterStore();
        x.sheet(0, 0, 6);
        x.sheet(1, 0, 4);
        int[][] outside = {{-1, 0, 1}, {0, -1, 1}, {0, 0, -1}, {-1, 0, 0}, {0, -1, 0}, {7, 0, 0}, {0, 5, 0}, {6, 0, 1},
            {0, 4, 1}, {3, 0, 4}, {0, 0, 5}, {0, 1, 4}, {0, 0, MIN}, {0, 0, MAX}, {MAX, 0, 1}, {0, MAX, 1},
            {1, 0, MAX}, {0, 1, MAX}, {MAX, MAX, MAX}, {MIN, 0, 1}, {0, MIN, 1}, {MIN, MIN, MIN}, {MAX, 0, MIN},
            {1, 1, -1}};
        for (int[] at : outside) {
            String call = "copy(0, " + at[0] + ", 1, " + at[1] + ", " + at[2] + ")";
            due(call, x.copy(0, at[0], 1, at[1], at[2]), INDEX);
        }
        due("to the target's end", x.copy(0, 2, 1, 0, 4), 4);
        due("to the source's end", x.copy(1, 0, 0, 2, 4), 4);
    }

    private static void copyWithinOneSheet() {
        Edges.sentence("(or the same) from j on, as if all were taken ahead");
        for (int lane = 0; lane < 3; lane++) {
            checkMove(lane, 0, 2, 8);
            checkMove(lane, 2, 0, 8);
            checkMove(lane, 0, 8, 4);
            checkMove(lane, 4, 4, 6);
        }
    }

    /** Ticks 10 .. 14, each with line 0, of which n items move; the row that is read must go up. */
    private static void checkMove(int lane, int i, int j, int n) {
        LetterStore x = new LetterStore();
        x.sheet(0, lane, 12);
        int[] want = new int[12];
        for (int place = 0; place < 12; place += 2) {
            x.item(0, lane, place, 10 + place / 2);
            want[place] = 10 + place / 2;
        }
        int[] ahead = want.clone();
        for (int k = 0; k < n; k++) {
            want[j + k] = ahead[i + k];
        }
        due("copy(0, " + i + ", 0, " + j + ", " + n + ")", x.copy(0, i, 0, j, n), n);
        for (int place = 0; place < 12; place += 2) {
            due("item " + place + " behind it", tickRead(x, 0, lane, place), want[place]);
        }
    }

    private static void copyToAnother() {
        Edges.sentence("n items of a SHEET from i on come to another one");
        LetterStore x = new LetterStore();
        x.line(0, 1);
        x.sheet(0, 1, 6);
        x.sheet(1, 1, 4);
        int[] items = {3, 0, 7, 1, 9, 1};
        for (int i = 0; i < items.length; i++) {
            x.item(0, 1, i, items[i]);
        }
        due("copy(0, 2, 1, 1, 2)", x.copy(0, 2, 1, 1, 2), 2);
        due("ahead of j nothing came", tickRead(x, 1, 1, 0), NOT);
        due("item 1", tickRead(x, 1, 1, 1), 7);
        due("item 2", x.letter(0, 0, 1), 1);
        due("item 2 as a tick, behind it nothing came", tickRead(x, 1, 1, 2), 1);
        due("the source stays", tickRead(x, 0, 1, 2), 7);
        x.item(0, 1, 2, 8);
        due("they are two rows", tickRead(x, 1, 1, 1), 7);
    }

    private static void copyOfLanes() {
        Edges.sentence("CAST: of unlike LANES");
        LetterStore x = new LetterStore();
        for (int from = 0; from < 3; from++) {
            for (int to = 0; to < 3; to++) {
                x.sheet(0, from, 4);
                x.sheet(1, to, 4);
                due("lane " + from + " to lane " + to, x.copy(0, 0, 1, 0, 4), from == to ? 4 : CAST);
                due("no items of lane " + from + " to lane " + to, x.copy(0, 0, 1, 0, 0), from == to ? 0 : CAST);
            }
        }
    }

    private static void copyOrder() {
        Edges.sentence("Answers below 0, of several the first that a call names (copy: BAD; NULL (either); CAST; INDEX)");
        LetterStore x = new LetterStore();
        x.sheet(1, 1, 3);
        x.sheet(2, 2, 3);
        due("no such source, nothing as target", x.copy(4, 0, 0, 0, 1), BAD);
        due("nothing as source, no such target", x.copy(0, 0, 4, 0, 1), BAD);
        due("nothing as source", x.copy(0, 0, 1, 0, 1), NULL);
        due("nothing as target", x.copy(1, 0, 0, 0, 1), NULL);
        due("nothing as both", x.copy(0, 0, 3, 0, 1), NULL);
        due("nothing as source, outside", x.copy(0, -1, 1, 9, -1), NULL);
        due("nothing as target, outside", x.copy(1, 9, 0, -1, -1), NULL);
        due("unlike lanes, outside", x.copy(1, 9, 2, 9, -1), CAST);
        due("like lanes, outside", x.copy(1, 3, 1, 0, 1), INDEX);
    }

    private static void rowsAtFirst() {
        Edges.sentence("ROWS 0 .. 3 are kept (empty at first).");
        LetterStore x = new LetterStore();
        for (int row = 0; row < 4; row++) {
            due("letter(row, -1, 0)", x.letter(row, -1, 0), 0);
            due("clear(row)", x.clear(row), 0);
            due("run(row, 0)", x.run(row, 0), 0);
        }
        for (int row = 0; row < 4; row++) {
            due("a letter in each", Edges.lay(x, row, 30 + row, 0), 1);
        }
        for (int row = 0; row < 4; row++) {
            due("each is one of its own", x.letter(row, 0, 0), 30 + row);
        }
        for (int row : new int[] {-1, 4, MIN, MAX}) {
            due("letters(" + row + ", ..)", x.letters(row, 3, 2, 0, 1), BAD);
            due("clear(" + row + ")", x.clear(row), BAD);
            due("letter(" + row + ", -1, 0)", x.letter(row, -1, 0), BAD);
            due("letter(" + row + ", 0, 0)", x.letter(row, 0, 0), BAD);
        }
    }

    private static void rowTicks() {
        Edges.sentence("each a TICK (0 .. 39; ..)");
        for (int tick : new int[] {0, 39}) {
            LetterStore x = new LetterStore();
            due("tick " + tick, Edges.lay(x, 0, tick, 0), 1);
            due("letter(0, 0, 0)", x.letter(0, 0, 0), tick);
        }
        for (int tick : new int[] {-1, 40, MIN, MAX}) {
            LetterStore x = new LetterStore();
            due("tick " + tick, Edges.lay(x, 0, tick, 0), NOT);
            due("tick " + tick + " behind another", Edges.lay(x, 0, 0, 0, tick, 0), NOT);
            due("no letter came", x.letter(0, -1, 0), 0);
        }
    }

    private static void rowTicksNotLess() {
        Edges.sentence("each a TICK (..; not less than that ahead)");
        LetterStore x = new LetterStore();
        due("the like tick in one call", Edges.lay(x, 0, 7, 0, 7, 0), 2);
        due("one less in one call", Edges.lay(x, 0, 9, 0, 8, 0), NOT);
        due("one less behind the row's last", Edges.lay(x, 0, 6, 0), NOT);
        due("the row's last is still 7", Edges.lay(x, 0, 7, 0), 3);
        due("more, then less", Edges.lay(x, 0, 7, 0, 20, 0, 19, 0), NOT);
        due("39", Edges.lay(x, 0, 39, 0), 4);
        due("38 behind 39", Edges.lay(x, 0, 38, 0), NOT);
        due("39 behind 39", Edges.lay(x, 0, 39, 0), 5);
        due("another row starts at 0", Edges.lay(x, 1, 0, 0), 1);
    }

    private static void rowLines() {
        Edges.sentence("each a TICK .. and a LINE (.. NOT: one is not as told)");
        LetterStore x = new LetterStore();
        for (int line : new int[] {-1, 1, 3, 4, MIN, MAX}) {
            due("line " + line + " of one", Edges.lay(x, 0, 0, line), NOT);
        }
        Edges.lay(x, 0, 0, 0);
        x.line(0, 1);
        x.line(1, 1);
        x.line(2, 1);
        due("all four", Edges.lay(x, 0, 1, 3, 1, 0, 1, 2, 1, 1), 5);
        for (int line : new int[] {-1, 4, MIN, MAX}) {
            due("line " + line + " of four", Edges.lay(x, 0, 1, line), NOT);
            due("the last one's line is " + line, Edges.lay(x, 0, 1, 0, 1, 3, 1, line), NOT);
        }
        due("none of these came", x.letter(0, -1, 0), 5);
        due("the last one", x.letter(0, 4, 1), 1);
    }

    private static void rowOfEighty() {
        Edges.sentence("and a LINE, 80 at most (.. FULL: 80)");
        LetterStore x = new LetterStore();
        due("80 at once", Edges.layMany(x, 0, 80, 3, 0), 80);
        due("one more", Edges.layMany(x, 0, 1, 3, 0), FULL);
        due("none more", x.letters(0, 3, 0, 0, 0), 80);
        due("80 more", Edges.layMany(x, 0, 80, 3, 0), FULL);
        due("it has 80", x.letter(0, -1, 0), 80);
        due("the last one", x.letter(0, 79, 0), 3);
        due("behind the last one", x.letter(0, 80, 0), BAD);
        due("79", Edges.layMany(x, 1, 79, 3, 0), 79);
        due("two more", Edges.layMany(x, 1, 2, 3, 0), FULL);
        due("80 more", Edges.layMany(x, 1, 80, 3, 0), FULL);
        due("it has 79", x.letter(1, -1, 0), 79);
        due("one more", Edges.layMany(x, 1, 1, 4, 0), 80);
        due("the last one", x.letter(1, 79, 0), 4);
        due("clear", x.clear(1), 80);
        due("80 again", Edges.layMany(x, 1, 80, 0, 0), 80);
    }

    private static void lettersFrom() {
        Edges.sentence("a ROW is laid from one: items TICK, LINE, TICK, LINE, ..");
        LetterStore x = new LetterStore();
        x.line(0, 1);
        x.line(0, 1);
        x.sheet(0, 0, 7);
        int[] items = {9, 1, 2, 2, 3, 0, 1};
        for (int i = 0; i < items.length; i++) {
            x.item(0, 0, i, items[i]);
        }
        due("from 1 on: 1 2, 2 3: no line 3", x.letters(0, 0, 0, 1, 2), NOT);
        due("from 2 on: 2 2, 3 0", x.letters(0, 0, 0, 2, 2), 2);
        due("from 4 on: 3 0", x.letters(0, 0, 0, 4, 1), 3);
        int[] want = {2, 2, 3, 0, 3, 0};
        for (int k = 0; k < 3; k++) {
            due("tick " + k, x.letter(0, k, 0), want[2 * k]);
            due("line " + k, x.letter(0, k, 1), want[2 * k + 1]);
        }
        x.item(0, 0, 2, 30);
        x.drop(0);
        due("the row does not hang on the sheet", x.letter(0, 0, 0), 2);
    }

    private static void lettersNumber() {
        Edges.sentence("are n letters more of a ROW: how many it has. BAD: also n 0 .. 80");
        LetterStore x = new LetterStore();
        x.sheet(0, 0, 160);
        for (int n : new int[] {-1, 81, 160, MIN, MAX, 1 << 30, 1 << 31}) {
            due("letters(0, 0, 0, 0, " + n + ")", x.letters(0, 0, 0, 0, n), BAD);
        }
        due("n 0", x.letters(0, 0, 0, 0, 0), 0);
        due("n 1", x.letters(0, 0, 0, 0, 1), 1);
        due("n 0", x.letters(0, 0, 0, 0, 0), 1);
        due("n 80 of another row", x.letters(1, 0, 0, 0, 80), 80);
        x.sheet(0, 0, 0);
        due("n 0 of no items", x.letters(2, 0, 0, 0, 0), 0);
        due("n 1 of no items", x.letters(2, 0, 0, 0, 1), INDEX);
    }

    private static void lettersIndex() {
        Edges.sentence("2 n items of a SHEET, taken as a row of a LANE, from one on .. INDEX");
        LetterStore x = new LetterStore();
        x.sheet(0, 2, 160);
        due("80 from 1 on", x.letters(0, 0, 2, 1, 80), INDEX);
        due("1 from 159 on", x.letters(0, 0, 2, 159, 1), INDEX);
        due("1 from 160 on", x.letters(0, 0, 2, 160, 1), INDEX);
        due("1 from -1 on", x.letters(0, 0, 2, -1, 1), INDEX);
        for (int from : new int[] {MIN, MAX, MAX - 1, MAX - 2, MAX - 159, -160, -2}) {
            due("1 from " + from + " on", x.letters(0, 0, 2, from, 1), INDEX);
            due("80 from " + from + " on", x.letters(0, 0, 2, from, 80), INDEX);
        }
        due("none came", x.letter(0, -1, 0), 0);
        due("1 from 158 on", x.letters(0, 0, 2, 158, 1), 1);
        due("0 from 160 on", x.letters(0, 0, 2, 160, 0), 1);
        x.sheet(0, 2, 5);
        due("3 of 5 items", x.letters(0, 0, 2, 0, 3), INDEX);
        due("2 from 1 on of 5 items", x.letters(0, 0, 2, 1, 2), 3);
        due("2 from 2 on of 5 items", x.letters(0, 0, 2, 2, 2), INDEX);
    }

    private static void lettersOrder() {
        Edges.sentence("Answers below 0, of several the first that a call names (letters: BAD; NULL; CAST; INDEX; NOT; FULL)");
        LetterStore x = new LetterStore();
        Edges.layMany(x, 1, 80, 9, 0);
        x.sheet(1, 1, 4);
        x.item(1, 1, 0, 40);
        due("n 81 of nothing", x.letters(1, 0, 0, 0, 81), BAD);
        due("row 4 of nothing", x.letters(4, 0, 0, 0, 1), BAD);
        due("lane 3 of nothing", x.letters(1, 0, 3, 0, 1), BAD);
        due("n 81, another lane, outside, not as told, full", x.letters(1, 1, 0, 9, 81), BAD);
        due("nothing, outside, full", x.letters(1, 0, 0, -1, 1), NULL);
        due("another lane, outside, full", x.letters(1, 1, 0, 9, 1), CAST);
        due("another lane, not as told", x.letters(0, 1, 2, 0, 1), CAST);
        due("another lane, full", x.letters(1, 1, 2, 2, 1), CAST);
        due("outside, not as told", x.letters(0, 1, 1, 0, 3), INDEX);
        due("outside, full", x.letters(1, 1, 1, 4, 1), INDEX);
        due("not as told, full", x.letters(1, 1, 1, 0, 1), NOT);
        due("a lesser tick than the last, full", x.letters(1, 1, 1, 2, 1), NOT);
        x.item(1, 1, 2, 9);
        due("full", x.letters(1, 1, 1, 2, 1), FULL);
    }

    private static void clearRow() {
        Edges.sentence("A ROW is empty, and not told to PASS: how many letters it had. BAD.");
        LetterStore x = new LetterStore();
        Edges.layMany(x, 1, 80, 39, 0);
        Edges.lay(x, 2, 5, 0);
        x.pass(1, true);
        x.pass(2, true);
        due("clear(1)", x.clear(1), 80);
        due("it is not told to pass, row 2 is", x.pass(0, false), 1);
        due("it is empty", x.letter(1, -1, 0), 0);
        due("no letter 0", x.letter(1, 0, 0), BAD);
        due("row 2 stays", x.letter(2, 0, 0), 5);
        due("clear(1) again", x.clear(1), 0);
        due("tick 0 may come again", Edges.lay(x, 1, 0, 0), 1);
        due("clear of an empty row told to pass", x.pass(3, true), 2);
        due("clear(3)", x.clear(3), 0);
        due("it is not told to pass", x.pass(0, false), 1);
    }

    private static void letterBounds() {
        Edges.sentence("Of letter k of a ROW: 0 its TICK, 1 its LINE; k = -1: how many letters. BAD.");
        LetterStore x = new LetterStore();
        x.line(0, 1);
        Edges.lay(x, 0, 3, 1, 4, 0);
        due("letter(0, 0, 0)", x.letter(0, 0, 0), 3);
        due("letter(0, 0, 1)", x.letter(0, 0, 1), 1);
        due("letter(0, 1, 0)", x.letter(0, 1, 0), 4);
        due("letter(0, 1, 1)", x.letter(0, 1, 1), 0);
        for (int k : new int[] {-2, 2, 80, MIN, MAX}) {
            due("letter(0, " + k + ", 0)", x.letter(0, k, 0), BAD);
            due("letter(0, " + k + ", 1)", x.letter(0, k, 1), BAD);
        }
        for (int what : new int[] {-1, 2, MIN, MAX}) {
            due("letter(0, 0, " + what + ")", x.letter(0, 0, what), BAD);
            due("letter(0, -1, " + what + ")", x.letter(0, -1, what), 2);
        }
        due("letter(1, 0, 0)", x.letter(1, 0, 0), BAD);
        due("letter(1, -1, 0)", x.letter(1, -1, 0), 0);
    }
}
