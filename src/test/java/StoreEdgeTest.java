/** The store and its lines, promises 1 to 9: each sentence that names a boundary has a test of its own here. */
public final class StoreEdgeTest {
    private static final int BAD = Edges.BAD, NOT = Edges.NOT, FULL = Edges.FULL, CAST = Edges.CAST;
    private static final int NULL = Edges.NULL, MIN = Edges.MIN, MAX = Edges.MAX;

    public static void main(String[] args) {
        newObject();
        roomBounds();
        roomAtFirst();
        roomHoldsThatMany();
        roomBelowParts();
        linesAsTheyCome();
        lineKinds();
        lineMarks();
        linePartsMoreThanRoom();
        lineFull();
        lineOrder();
        markBounds();
        paceBounds();
        partBounds();
        partCast();
        partNot();
        partOrder();
        holdHigh();
        holdLow();
        holdLag();
        holdCast();
        toldOfEachKind();
        toldBounds();
        need();
        shareBounds();
        Edges.end();
    }

    private static void due(String call, int got, int want) {
        Edges.due(call, got, want);
    }

    private static void newObject() {
        Edges.sentence("B 8, one LINE, empty ROWS, nothing in SHEETS, a 16; no RUN was.");
        LetterStore x = new LetterStore();
        due("ticks()", x.ticks(), BAD);
        due("fate(0, 0)", x.fate(0, 0), BAD);
        due("sum(-1, 0)", x.sum(-1, 0), BAD);
        due("sum(0, 4)", x.sum(0, 4), BAD);
        due("length(0, 0)", x.length(0, 0), BAD);
        due("witness()", x.witness(), -1);
        for (int i = 0; i < 4; i++) {
            due("letter(" + i + ", -1, 0)", x.letter(i, -1, 0), 0);
            due("letter(" + i + ", 0, 0)", x.letter(i, 0, 0), BAD);
            due("best(" + i + ")", x.best(i), 0);
            due("drop(" + i + ")", x.drop(i), NULL);
        }
        due("told(1, 0)", x.told(1, 0), BAD);
        due("pass(0, false): none is told to pass", x.pass(0, false), 0);
        due("share(16)", x.share(16), 16);
        due("room(8)", x.room(8), 8);
        due("line(0, 0)", x.line(0, 0), 1);
    }

    private static void roomBounds() {
        Edges.sentence("THE STORE has room for B letters (1 .. 12; ..)");
        LetterStore x = new LetterStore();
        due("room(1)", x.room(1), 8);
        for (int b : new int[] {0, -1, 13, MIN, MAX}) {
            due("room(" + b + ")", x.room(b), BAD);
        }
        due("room(12)", x.room(12), 1);
        due("room(12)", x.room(12), 12);
    }

    private static void roomAtFirst() {
        Edges.sentence("THE STORE has room for B letters (..; 8 at first)");
        due("room(3)", new LetterStore().room(3), 8);
        LetterStore x = new LetterStore();
        x.mark(0, 12);
        Edges.layMany(x, 0, 9, 0, 0);
        due("run(0, 0)", x.run(0, 0), 8);
        due("best(0)", x.best(0), 8);
    }

    private static void roomHoldsThatMany() {
        Edges.sentence("FREE is B less all LENGTHS.");
        for (int b = 1; b <= 12; b++) {
            LetterStore x = Edges.storeWith(b);
            Edges.layMany(x, 0, b, 0, 0);
            Edges.layMany(x, 1, b + 1, 0, 0);
            for (int rule : new int[] {0, 2, 3}) {
                due("B letters in room " + b + " by rule " + rule, x.run(0, rule), b);
                due("one letter more by rule " + rule, x.run(1, rule), b);
                due("the one more is refused", x.fate(b, 0), 1);
            }
        }
    }

    private static void roomBelowParts() {
        Edges.sentence("Room for B: what it was. BAD: also all PARTS are more.");
        LetterStore x = Edges.storeWith(12, 1, 2, 1);
        x.part(1, 2);
        x.part(2, 3);
        x.part(3, 4);
        due("room(8), PARTS 9", x.room(8), BAD);
        due("room(9), PARTS 9", x.room(9), 12);
        due("room(9), PARTS 9", x.room(9), 9);
        due("part(3, 3)", x.part(3, 3), 4);
        due("room(8), PARTS 8", x.room(8), 9);
        due("room(7), PARTS 8", x.room(7), BAD);
    }

    private static void linesAsTheyCome() {
        Edges.sentence("LINES 0 .. 3, as they come (at first LINE 0, a LINE with MARK 4, is there)");
        LetterStore x = new LetterStore();
        due("told(0, 0)", x.told(0, 0), 0);
        due("told(0, 1)", x.told(0, 1), 4);
        for (int number = 1; number < 4; number++) {
            due("told of the next one", x.told(number, 0), BAD);
            due("mark of the next one", x.mark(number, 1), BAD);
            due("pace of the next one", x.pace(number, 1), BAD);
            due("part of the next one", x.part(number, 1), BAD);
            due("hold of the next one", x.hold(number, 2, 1, 1), BAD);
            due("a letter of the next one", Edges.lay(x, 0, 0, number), NOT);
            due("line(0, " + number + ")", x.line(0, number), number);
            due("told(" + number + ", 1)", x.told(number, 1), number);
            due("a letter of it", Edges.lay(x, 0, 0, number), number);
        }
        due("told(4, 0)", x.told(4, 0), BAD);
    }

    private static void lineKinds() {
        Edges.sentence("are of KINDS 0 LINE, below it 1 SURE, 2 HELD (a kind of SURE)");
        LetterStore x = new LetterStore();
        for (int kind : new int[] {-1, 3, MIN, MAX}) {
            due("line(" + kind + ", 0)", x.line(kind, 0), BAD);
        }
        for (int kind = 0; kind < 3; kind++) {
            due("line(" + kind + ", 0)", x.line(kind, 0), kind + 1);
            due("told(.., 0)", x.told(kind + 1, 0), kind);
        }
        due("a LINE is no SURE one", x.part(1, 0), CAST);
        due("a SURE one is", x.part(2, 0), 1);
        due("a HELD one is a SURE one", x.part(3, 0), 1);
        due("a LINE is no HELD one", x.hold(1, 2, 1, 1), CAST);
        due("a SURE one is no HELD one", x.hold(2, 2, 1, 1), CAST);
        due("a HELD one is", x.hold(3, 2, 1, 1), 1);
    }

    private static void lineMarks() {
        Edges.sentence("A LINE has a MARK (0 .. 12)");
        LetterStore x = new LetterStore();
        for (int mark : new int[] {-1, 13, MIN, MAX}) {
            due("line(0, " + mark + ")", x.line(0, mark), BAD);
            due("line(2, " + mark + ")", x.line(2, mark), BAD);
        }
        due("line(0, 0)", x.line(0, 0), 1);
        due("line(1, 12)", x.line(1, 12), 2);
        due("told(1, 1)", x.told(1, 1), 0);
        due("told(2, 1)", x.told(2, 1), 12);
    }

    private static void linePartsMoreThanRoom() {
        Edges.sentence("NOT: PARTS would be more than B");
        LetterStore x = new LetterStore();
        x.room(2);
        due("a first SURE one in room 2", x.line(1, 0), 1);
        due("part(1, 2)", x.part(1, 2), 1);
        due("a SURE one, PARTS are 2 of 2", x.line(1, 0), NOT);
        due("a HELD one, PARTS are 2 of 2", x.line(2, 0), NOT);
        due("a LINE has no PART", x.line(0, 0), 2);
        due("part(1, 1)", x.part(1, 1), 2);
        due("a HELD one, PARTS are 1 of 2", x.line(2, 0), 3);
        due("PARTS are 2 of 2", x.room(1), BAD);
    }

    private static void lineFull() {
        Edges.sentence("A LINE of a KIND with a MARK: its number. ..; FULL: 4.");
        for (int kind = 0; kind < 3; kind++) {
            LetterStore x = new LetterStore();
            due("the second one", x.line(kind, 0), 1);
            due("the third one", x.line(kind, 0), 2);
            due("the fourth one", x.line(kind, 0), 3);
            due("a fifth one", x.line(kind, 0), FULL);
            due("a fifth one of another kind", x.line((kind + 1) % 3, 0), FULL);
            due("told(4, 0)", x.told(4, 0), BAD);
        }
    }

    private static void lineOrder() {
        Edges.sentence("Answers below 0, of several the first that a call names (line: BAD; NOT; FULL)");
        LetterStore x = Edges.storeWith(12, 1, 0, 0);
        x.part(1, 12);
        due("four, and PARTS would be 13", x.line(1, 0), NOT);
        due("four, and PARTS would be 13", x.line(2, 0), NOT);
        due("four, a LINE has no PART", x.line(0, 0), FULL);
        due("four, PARTS would be 13, kind 3", x.line(3, 0), BAD);
        due("four, PARTS would be 13, mark 13", x.line(1, 13), BAD);
        due("four, mark -1", x.line(0, -1), BAD);
    }

    private static void markBounds() {
        Edges.sentence("The MARK of a LINE: what it was. BAD.");
        LetterStore x = Edges.storeWith(8, 2);
        due("mark(0, 0)", x.mark(0, 0), 12);
        due("mark(0, 12)", x.mark(0, 12), 0);
        for (int bad : new int[] {-1, 13, MIN, MAX}) {
            due("mark(0, " + bad + ")", x.mark(0, bad), BAD);
        }
        for (int line : new int[] {-1, 2, 4, MIN, MAX}) {
            due("mark(" + line + ", 1)", x.mark(line, 1), BAD);
        }
        due("mark(1, 3)", x.mark(1, 3), 12);
        due("told(0, 1)", x.told(0, 1), 12);
        due("told(1, 1)", x.told(1, 1), 3);
    }

    private static void paceBounds() {
        Edges.sentence("and a PACE (1 .. 5; 1 at first)");
        LetterStore x = Edges.storeWith(8, 1, 2);
        for (int line = 0; line < 3; line++) {
            due("1 at first", x.told(line, 7), 1);
            due("pace(line, 5)", x.pace(line, 5), 1);
            for (int bad : new int[] {0, -1, 6, MIN, MAX}) {
                due("pace(line, " + bad + ")", x.pace(line, bad), BAD);
            }
            due("told(line, 7)", x.told(line, 7), 5);
            due("pace(line, 1)", x.pace(line, 1), 5);
        }
        for (int line : new int[] {-1, 3, MIN, MAX}) {
            due("pace(" + line + ", 1)", x.pace(line, 1), BAD);
        }
    }

    private static void partBounds() {
        Edges.sentence("a SURE one a PART (0 .. 12; 1 at first)");
        for (int kind = 1; kind < 3; kind++) {
            LetterStore x = new LetterStore();
            x.room(12);
            x.line(kind, 0);
            due("1 at first", x.told(1, 2), 1);
            due("part(1, 12)", x.part(1, 12), 1);
            for (int bad : new int[] {-1, 13, MIN, MAX}) {
                due("part(1, " + bad + ")", x.part(1, bad), BAD);
            }
            due("part(1, 0)", x.part(1, 0), 12);
            due("told(1, 2)", x.told(1, 2), 0);
        }
        LetterStore y = Edges.storeWith(12, 1);
        for (int line : new int[] {-1, 2, MIN, MAX}) {
            due("part(" + line + ", 1)", y.part(line, 1), BAD);
        }
    }

    private static void partCast() {
        Edges.sentence("The PART of a SURE LINE: what it was. BAD; CAST: it is none");
        LetterStore x = Edges.storeWith(12, 0, 1, 2);
        due("part(0, 0)", x.part(0, 0), CAST);
        due("part(1, 12)", x.part(1, 12), CAST);
        due("part(2, 1)", x.part(2, 1), 0);
        due("part(3, 1)", x.part(3, 1), 0);
    }

    private static void partNot() {
        Edges.sentence("All PARTS together are B at most.");
        LetterStore x = Edges.storeWith(10, 1, 2, 1);
        due("PARTS 4", x.part(1, 4), 0);
        due("PARTS 8", x.part(2, 4), 0);
        due("PARTS would be 11", x.part(3, 3), NOT);
        due("PARTS 10", x.part(3, 2), 0);
        due("the like PART again", x.part(1, 4), 4);
        due("PARTS would be 11", x.part(1, 5), NOT);
        due("PARTS 9", x.part(2, 3), 4);
        due("PARTS 10", x.part(1, 5), 4);
        due("PARTS would be 11", x.part(3, 3), NOT);
        due("room(11)", x.room(11), 10);
        due("PARTS 11", x.part(3, 3), 2);
    }

    private static void partOrder() {
        Edges.sentence("Answers below 0, of several the first that a call names (part: BAD; CAST; NOT)");
        LetterStore x = Edges.storeWith(4, 1);
        x.part(1, 4);
        due("a LINE, PARTS would be 5", x.part(0, 1), CAST);
        due("a LINE, part 13", x.part(0, 13), BAD);
        due("PARTS would be more, part 13", x.part(1, 13), BAD);
        due("no such line, part 5", x.part(2, 5), BAD);
    }

    private static void holdHigh() {
        Edges.sentence("a HELD one a HIGH (1 .. 12; 2 at first)");
        LetterStore x = Edges.storeWith(8, 2);
        due("2 at first", x.told(1, 3), 2);
        due("hold(1, 1, 0, 1)", x.hold(1, 1, 0, 1), 1);
        due("told(1, 3)", x.told(1, 3), 1);
        for (int bad : new int[] {0, -1, 13, MIN, MAX}) {
            due("hold(1, " + bad + ", 0, 1)", x.hold(1, bad, 0, 1), BAD);
        }
        due("hold(1, 0, -1, 1)", x.hold(1, 0, -1, 1), BAD);
        due("hold(1, MIN, MAX, 1)", x.hold(1, MIN, MAX, 1), BAD);
        due("hold(1, 12, 0, 1)", x.hold(1, 12, 0, 1), 1);
        due("told(1, 3)", x.told(1, 3), 12);
    }

    private static void holdLow() {
        Edges.sentence("a LOW (0 .. 11, less than HIGH; 1 at first)");
        LetterStore x = Edges.storeWith(8, 2);
        due("1 at first", x.told(1, 4), 1);
        for (int high = 1; high <= 12; high++) {
            due("hold(1, " + high + ", HIGH, 1)", x.hold(1, high, high, 1), BAD);
            due("hold(1, " + high + ", HIGH and 1, 1)", x.hold(1, high, high + 1, 1), BAD);
            due("hold(1, " + high + ", -1, 1)", x.hold(1, high, -1, 1), BAD);
            due("hold(1, " + high + ", 0, 1)", x.hold(1, high, 0, 1), 1);
            due("hold(1, " + high + ", HIGH less 1, 1)", x.hold(1, high, high - 1, 1), 1);
            due("told(1, 4)", x.told(1, 4), high - 1);
        }
        due("hold(1, 12, MIN, 1)", x.hold(1, 12, MIN, 1), BAD);
        due("hold(1, 12, MAX, 1)", x.hold(1, 12, MAX, 1), BAD);
    }

    private static void holdLag() {
        Edges.sentence("and a LAG (0 .. 5; 1 at first)");
        LetterStore x = Edges.storeWith(8, 2);
        due("1 at first", x.told(1, 5), 1);
        due("hold(1, 2, 1, 0)", x.hold(1, 2, 1, 0), 1);
        due("told(1, 5)", x.told(1, 5), 0);
        due("hold(1, 2, 1, 5)", x.hold(1, 2, 1, 5), 1);
        for (int bad : new int[] {-1, 6, MIN, MAX}) {
            due("hold(1, 2, 1, " + bad + ")", x.hold(1, 2, 1, bad), BAD);
        }
        due("told(1, 5)", x.told(1, 5), 5);
    }

    private static void holdCast() {
        Edges.sentence("HIGH, LOW, LAG of a HELD LINE: 1. BAD; CAST: it is none.");
        LetterStore x = Edges.storeWith(8, 1, 2);
        for (int line = 0; line < 2; line++) {
            due("hold(line, 2, 1, 1)", x.hold(line, 2, 1, 1), CAST);
            due("BAD ahead of CAST: HIGH", x.hold(line, 13, 1, 1), BAD);
            due("BAD ahead of CAST: LOW", x.hold(line, 2, 2, 1), BAD);
            due("BAD ahead of CAST: LAG", x.hold(line, 2, 1, 6), BAD);
        }
        for (int line : new int[] {-1, 3, MIN, MAX}) {
            due("hold(" + line + ", 2, 1, 1)", x.hold(line, 2, 1, 1), BAD);
        }
        due("hold(2, 5, 3, 2)", x.hold(2, 5, 3, 2), 1);
        due("told(2, 3)", x.told(2, 3), 5);
        due("told(2, 4)", x.told(2, 4), 3);
        due("told(2, 5)", x.told(2, 5), 2);
    }

    private static void toldOfEachKind() {
        Edges.sentence("0 KIND, 1 MARK, 2 PART, 3 HIGH, 4 LOW, 5 LAG, 6 NEED, 7 PACE (0 where it has none of that)");
        LetterStore x = new LetterStore();
        x.line(1, 7);
        x.line(2, 9);
        x.pace(0, 2);
        x.pace(1, 3);
        x.pace(2, 4);
        x.part(1, 2);
        x.part(2, 6);
        x.hold(2, 8, 5, 3);
        int[][] want = {{0, 4, 0, 0, 0, 0, 0, 2}, {1, 7, 2, 0, 0, 0, 0, 3}, {2, 9, 6, 8, 5, 3, 11, 4}};
        for (int line = 0; line < 3; line++) {
            for (int what = 0; what < 8; what++) {
                due("told(" + line + ", " + what + ")", x.told(line, what), want[line][what]);
            }
        }
    }

    private static void toldBounds() {
        Edges.sentence("Of a LINE: .. BAD.");
        LetterStore x = Edges.storeWith(8, 1, 2);
        for (int line = 0; line < 3; line++) {
            for (int what : new int[] {-1, 8, MIN, MAX}) {
                due("told(" + line + ", " + what + ")", x.told(line, what), BAD);
            }
        }
        for (int line : new int[] {-1, 3, 4, MIN, MAX}) {
            for (int what = 0; what < 8; what++) {
                due("told(" + line + ", " + what + ")", x.told(line, what), BAD);
            }
        }
    }

    private static void need() {
        Edges.sentence("NEED of a HELD LINE: HIGH and LAG together");
        LetterStore x = Edges.storeWith(8, 2);
        due("at first", x.told(1, 6), 3);
        x.hold(1, 1, 0, 0);
        due("the least", x.told(1, 6), 1);
        x.hold(1, 12, 0, 5);
        due("the most, above any room", x.told(1, 6), 17);
    }

    private static void shareBounds() {
        Edges.sentence("a times FREE (a 1 .. 160; 16 at first)");
        LetterStore x = new LetterStore();
        due("share(1)", x.share(1), 16);
        for (int bad : new int[] {0, -1, 161, MIN, MAX}) {
            due("share(" + bad + ")", x.share(bad), BAD);
        }
        due("share(160)", x.share(160), 1);
        due("share(16)", x.share(16), 160);
    }
}
