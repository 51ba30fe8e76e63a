/** Foresight and marks, promises 22 to 26: each sentence that names a boundary has a test of its own here. */
public final class ForesightEdgeTest {
    private static final int BAD = Edges.BAD, NOT = Edges.NOT, MIN = Edges.MIN, MAX = Edges.MAX;
    private static final int FIXED = 0, SHARED = 1, PUSHED = 2, KEPT = 3;

    public static void main(String[] args) {
        bestBounds();
        bestNeverAboveRoom();
        bestOfEighty();
        bestByAnyChoice();
        bestByPaces();
        bestHeldAsLines();
        bestByNoRule();
        shortBounds();
        shortOfNothing();
        shortOfEachRule();
        shortHeldAsLines();
        shortEndsInTime();
        shortLeavesLatestRun();
        needLosesNone();
        partBelowNeedMayLose();
        passBounds();
        passCounts();
        marksOfNone();
        marksLeast();
        marksMost();
        marksNoneFree();
        marksOfEachRow();
        marksHeldAsLines();
        marksIsNotSet();
        witnessAheadOfMarks();
        witnessFirstRow();
        witnessByLatestMarks();
        Edges.end();
    }

    private static void due(String call, int got, int want) {
        Edges.due(call, got, want);
    }

    private static void bestBounds() {
        Edges.sentence("THE BEST. BAD.");
        LetterStore x = new LetterStore();
        for (int row : new int[] {-1, 4, MIN, MAX}) {
            due("best(" + row + ")", x.best(row), BAD);
        }
        for (int row = 0; row < 4; row++) {
            due("of an empty row", x.best(row), 0);
            Edges.layMany(x, row, row + 1, 0, 0);
            due("best(" + row + ")", x.best(row), row + 1);
        }
        x.clear(3);
        due("of a row that was cleared", x.best(3), 0);
    }

    private static void bestNeverAboveRoom() {
        Edges.sentence("so that all LENGTHS together never are above B");
        for (int b = 1; b <= 12; b++) {
            LetterStore x = Edges.storeWith(b, 0);
            Edges.layMany(x, 0, b, 0, 0);
            due("B at once in room " + b, x.best(0), b);
            Edges.layMany(x, 0, 1, 0, 1);
            due("one more, of another line", x.best(0), b);
            // Both lines send one at tick 0, so two places are free at tick 1; in room 1 there is but one.
            Edges.layMany(x, 0, 2, 1, 0);
            due("two more at tick 1", x.best(0), b == 1 ? 2 : b + 2);
        }
    }

    private static void bestOfEighty() {
        Edges.sentence("THE BEST of a ROW: the most letters that can be TAKEN");
        LetterStore x = Edges.storeWith(2, 0);
        for (int tick = 0; tick < 40; tick++) {
            Edges.lay(x, 0, tick, 0, tick, 1);
        }
        due("two each tick in room 2", x.best(0), 80);
        x.room(1);
        due("two each tick in room 1", x.best(0), 40);
        x.clear(0);
        Edges.layMany(x, 0, 80, 39, 0);
        x.room(12);
        due("80 at tick 39", x.best(0), 12);
        x.clear(0);
        Edges.layMany(x, 0, 40, 38, 0);
        Edges.layMany(x, 0, 40, 39, 0);
        due("80 at ticks 38 and 39", x.best(0), 13);
    }

    private static void bestByAnyChoice() {
        Edges.sentence("the most letters that can be TAKEN by any choice of letters");
        LetterStore x = Edges.storeWith(2, 0);
        x.pace(0, 5);
        // To take both of line 0 would leave no room for line 1 up to tick 4.
        Edges.lay(x, 0, 0, 0, 0, 0, 1, 1, 2, 1, 3, 1, 4, 1);
        due("one of line 0, four of line 1", x.best(0), 5);
        x.room(1);
        due("none of line 0, four of line 1", x.best(0), 4);
        x.room(3);
        due("all of them", x.best(0), 6);
        x.room(1);
        x.clear(0);
        Edges.lay(x, 0, 0, 1, 0, 0, 1, 1, 2, 1, 3, 1);
        due("none of line 0, which comes behind line 1 at tick 0", x.best(0), 4);
    }

    private static void bestByPaces() {
        Edges.sentence("THE BEST of a ROW (each LINE SENDS at each TICK t at which t and 1 is a multiple of its PACE)");
        for (int pace = 1; pace <= 5; pace++) {
            LetterStore x = Edges.storeWith(1);
            x.pace(0, pace);
            Edges.lay(x, 0, 0, 0, pace - 1, 0, pace, 0, 2 * pace - 1, 0, 2 * pace, 0);
            due("room 1, pace " + pace, x.best(0), 3);
        }
    }

    private static void bestHeldAsLines() {
        Edges.sentence("(HELD LINES as if they were LINES: their letters come at their TICKS)");
        LetterStore x = Edges.storeWith(3, 2);
        Edges.layMany(x, 0, 9, 0, 1);
        due("nine at tick 0 in room 3", x.best(0), 3);
        due("as a RUN they wait", x.run(0, PUSHED), 9);
        x.hold(1, 1, 0, 5);
        due("HIGH, LOW and LAG do not count", x.best(0), 3);
    }

    private static void bestByNoRule() {
        Edges.sentence("the most letters that can be TAKEN by any choice of letters, so that all LENGTHS together never are above B");
        LetterStore x = Edges.storeWith(4, 1);
        x.mark(0, 0);
        x.mark(1, 0);
        x.share(1);
        x.part(1, 4);
        Edges.layMany(x, 0, 5, 0, 0);
        due("MARK, a and PARTS do not count", x.best(0), 4);
    }

    private static void shortBounds() {
        Edges.sentence("SHORT of a RULE 0 .. 2. BAD.");
        LetterStore x = new LetterStore();
        Edges.lay(x, 0, 0, 0);
        for (int rule : new int[] {-1, KEPT, 4, MIN, MAX}) {
            due("shortBy(0, " + rule + ")", x.shortBy(0, rule), BAD);
        }
        for (int row : new int[] {-1, 4, MIN, MAX}) {
            due("shortBy(" + row + ", 0)", x.shortBy(row, 0), BAD);
        }
        for (int rule = 0; rule < 3; rule++) {
            due("shortBy(0, " + rule + ")", x.shortBy(0, rule), 0);
            due("shortBy(3, " + rule + ")", x.shortBy(3, rule), 0);
        }
    }

    private static void shortOfNothing() {
        Edges.sentence("THE BEST less the letters that are SENT by it");
        LetterStore x = Edges.storeWith(6);
        x.mark(0, 0);
        Edges.layMany(x, 0, 9, 0, 0);
        due("MARK 0: none is sent", x.shortBy(0, FIXED), 6);
        x.mark(0, 6);
        due("MARK 6: all of THE BEST", x.shortBy(0, FIXED), 0);
        x.mark(0, 5);
        due("MARK 5: all but one", x.shortBy(0, FIXED), 1);
    }

    private static void shortOfEachRule() {
        Edges.sentence("SHORT of a RULE 0 to 2");
        LetterStore x = Edges.storeWith(2, 0);
        x.pace(0, 5);
        x.share(160);
        Edges.lay(x, 0, 0, 0, 0, 0, 1, 1, 2, 1, 3, 1, 4, 1);
        due("rule 0 takes both of line 0", x.shortBy(0, FIXED), 3);
        due("rule 1, a 160, too", x.shortBy(0, SHARED), 3);
        x.share(16);
        due("rule 1, a 16, takes one", x.shortBy(0, SHARED), 0);
        due("rule 2 pushes one out", x.shortBy(0, PUSHED), 0);
        x.clear(0);
        Edges.lay(x, 0, 0, 0, 1, 1, 1, 1, 2, 1, 2, 1, 3, 1);
        x.room(1);
        due("rule 2 in room 1 pushes none out", x.shortBy(0, PUSHED), 2);
    }

    private static void shortHeldAsLines() {
        Edges.sentence("SENT by it, if HELD LINES were LINES");
        LetterStore x = Edges.storeWith(4, 2);
        x.mark(1, 1);
        Edges.layMany(x, 0, 4, 0, 1);
        due("MARK 1: one of four at tick 0", x.shortBy(0, FIXED), 3);
        due("a RUN loses none, as they wait", x.run(0, FIXED), 4);
        x.share(1);
        due("a 1: one of four", x.shortBy(0, SHARED), 3);
        due("rule 2", x.shortBy(0, PUSHED), 0);
        // As lines they come in the row's order, not ahead of line 0.
        x.clear(0);
        x.room(1);
        x.pace(0, 5);
        Edges.lay(x, 0, 0, 0, 0, 1, 1, 1);
        due("line 0 is taken first", x.shortBy(0, PUSHED), 1);
    }

    private static void shortEndsInTime() {
        Edges.sentence("(a RUN then ends in time)");
        LetterStore x = Edges.storeWith(12, 2);
        x.pace(1, 5);
        x.hold(1, 1, 0, 5);
        Edges.layMany(x, 0, 80, 39, 1);
        due("THE BEST: 12 at tick 39", x.best(0), 12);
        due("rule 2 sends 12", x.shortBy(0, PUSHED), 0);
        due("rule 0 sends 12", x.shortBy(0, FIXED), 0);
        due("rule 1, a 16, sends 6", x.shortBy(0, SHARED), 6);
    }

    private static void shortLeavesLatestRun() {
        Edges.sentence("(The latest RUN stays that.)");
        LetterStore x = Edges.storeWith(2, 0);
        due("shortBy ahead of a RUN", x.shortBy(0, FIXED), 0);
        due("there was none", x.ticks(), BAD);
        Edges.lay(x, 0, 3, 0, 3, 0, 3, 1);
        Edges.layMany(x, 1, 9, 0, 1);
        x.run(0, PUSHED);
        for (int rule = 0; rule < 3; rule++) {
            x.shortBy(1, rule);
            x.best(1);
            due("ticks()", x.ticks(), 4);
            Edges.fates(x, 0, 0, 2, 0, BAD);
            Edges.fates(x, 1, 3, 3, 3, BAD);
            Edges.fates(x, 2, -2, 2, -2, BAD);
            due("sum(0, 4)", x.sum(0, 4), 2);
            due("sum(1, 4)", x.sum(1, 4), 1);
            due("sum(-1, 0)", x.sum(-1, 0), 2);
            Edges.lengths(x, 1, 0, 0, 0, 0);
        }
    }

    private static void needLosesNone() {
        Edges.sentence("with a PART of that or more none of its letters is REFUSED by RULE 3");
        for (int high = 1; high <= 12; high++) {
            for (int lag = 0; lag <= 5 && high + lag <= 12; lag++) {
                for (int low = 0; low < high; low++) {
                    LetterStore x = Edges.storeWith(12, 2);
                    x.hold(1, high, low, lag);
                    x.pace(1, 5);
                    due("a PART of NEED", x.part(1, x.told(1, 6)), 0);
                    Edges.layMany(x, 0, 12, 0, 0);
                    Edges.layMany(x, 0, 68, 0, 1);
                    x.run(0, KEPT);
                    due("HIGH " + high + ", LOW " + low + ", LAG " + lag, x.sum(1, 1), 0);
                }
            }
        }
    }

    /** That NEED is no more than it must be: one less, and a letter is lost where nothing else has room. */
    private static void partBelowNeedMayLose() {
        Edges.sentence("NEED of a HELD LINE: HIGH and LAG together");
        LetterStore x = Edges.storeWith(4, 2, 0);
        x.hold(1, 2, 0, 1);
        x.pace(0, 5);
        x.pace(1, 5);
        Edges.layMany(x, 0, 4, 0, 0);
        Edges.layMany(x, 0, 4, 0, 1);
        x.part(1, 3);
        x.run(0, KEPT);
        due("PART 3 is NEED", x.sum(1, 1), 0);
        x.part(1, 2);
        x.run(0, KEPT);
        due("PART 2 is one less", x.sum(1, 1), 1);
        due("the third one", x.fate(6, 0), 1);
        due("the third one, at 2", x.fate(6, 1), 2);
    }

    private static void passBounds() {
        Edges.sentence("A ROW is told to PASS, or not any more: how many are. BAD.");
        LetterStore x = new LetterStore();
        for (int row : new int[] {-1, 4, MIN, MAX}) {
            due("pass(" + row + ", true)", x.pass(row, true), BAD);
            due("pass(" + row + ", false)", x.pass(row, false), BAD);
        }
        due("none is", x.pass(0, false), 0);
    }

    private static void passCounts() {
        Edges.sentence("A ROW is told to PASS, or not any more: how many are.");
        LetterStore x = new LetterStore();
        for (int row = 0; row < 4; row++) {
            due("pass(" + row + ", true)", x.pass(row, true), row + 1);
            due("pass(" + row + ", true) again", x.pass(row, true), row + 1);
        }
        for (int row = 0; row < 4; row++) {
            due("pass(" + row + ", false)", x.pass(row, false), 3 - row);
            due("pass(" + row + ", false) again", x.pass(row, false), 3 - row);
        }
    }

    private static void marksOfNone() {
        Edges.sentence("MARKS: the least a by which a RUN by RULE 1 of each ROW that is told to PASS refuses none");
        LetterStore x = Edges.storeWith(1);
        Edges.layMany(x, 0, 80, 0, 0);
        due("none is told to PASS", x.marks(), 1);
        x.pass(1, true);
        due("an empty ROW", x.marks(), 1);
        Edges.lay(x, 1, 0, 0, 1, 0, 39, 0);
        due("one letter each tick in room 1", x.marks(), 1);
        x.share(160);
        due("the a that is set does not count", x.marks(), 1);
    }

    private static void marksLeast() {
        Edges.sentence("MARKS: the least a .. refuses none (16 x is less than a times FREE)");
        int[][] rows = {{2, 2, 17}, {3, 2, 9}, {5, 2, 5}, {9, 2, 3}, {12, 2, 2}, {12, 3, 4}, {4, 3, 17}, {5, 5, 65},
            {10, 10, 145}, {12, 11, 81}};
        for (int[] each : rows) {
            LetterStore x = Edges.storeWith(each[0]);
            Edges.layMany(x, 0, each[1], 0, 0);
            x.pass(0, true);
            int a = each[2];
            due("room " + each[0] + ", " + each[1] + " at once", x.marks(), a);
            x.share(a);
            due("by a " + a + " all are sent", x.run(0, SHARED), each[1]);
            x.share(a - 1);
            due("by one less one is not", x.run(0, SHARED), each[1] - 1);
        }
    }

    private static void marksMost() {
        Edges.sentence("NOT, if there is none (a 1 .. 160)");
        LetterStore x = Edges.storeWith(11);
        Edges.layMany(x, 0, 11, 0, 0);
        x.pass(0, true);
        due("160 is less than 161 times 1 only", x.marks(), NOT);
        due("witness()", x.witness(), 0);
        x.room(12);
        due("160 is less than 81 times 2", x.marks(), 81);
        Edges.layMany(x, 0, 1, 0, 0);
        due("176 is less than 177 times 1 only", x.marks(), NOT);
    }

    private static void marksNoneFree() {
        Edges.sentence("NOT, if there is none (.., and FREE above 0)");
        LetterStore x = Edges.storeWith(3, 0, 0, 0);
        Edges.lay(x, 0, 0, 0, 0, 1, 0, 2);
        x.pass(0, true);
        due("three lines in room 3", x.marks(), 1);
        Edges.lay(x, 0, 0, 3);
        due("four lines in room 3", x.marks(), NOT);
        due("witness()", x.witness(), 0);
        x.room(4);
        due("four lines in room 4", x.marks(), 1);
        due("witness()", x.witness(), -1);
    }

    private static void marksOfEachRow() {
        Edges.sentence("the least a by which a RUN by RULE 1 of each ROW that is told to PASS refuses none");
        LetterStore x = Edges.storeWith(4);
        Edges.layMany(x, 3, 2, 0, 0);
        Edges.layMany(x, 1, 3, 0, 0);
        Edges.layMany(x, 0, 4, 0, 0);
        x.pass(3, true);
        due("two: 16 is less than 6 times 3", x.marks(), 6);
        x.pass(1, true);
        due("three: 32 is less than 17 times 2", x.marks(), 17);
        x.pass(0, true);
        due("four: 48 is less than 49 times 1", x.marks(), 49);
        x.pass(1, false);
        due("the greatest counts, wherever it is", x.marks(), 49);
        x.pass(0, false);
        due("not any more", x.marks(), 6);
        x.pass(0, true);
        x.clear(0);
        due("a cleared ROW is not told to PASS", x.marks(), 6);
        x.pace(0, 2);
        Edges.lay(x, 3, 1, 0);
        due("by its PACE three are there at tick 1", x.marks(), 17);
        Edges.layMany(x, 3, 4, 39, 0);
        due("four at tick 39, when it is empty again", x.marks(), 49);
        Edges.layMany(x, 3, 1, 39, 0);
        due("five at tick 39", x.marks(), NOT);
    }

    private static void marksHeldAsLines() {
        Edges.sentence("refuses none (with HELD LINES as if they were LINES)");
        LetterStore x = Edges.storeWith(3, 2);
        Edges.layMany(x, 0, 3, 0, 1);
        x.pass(0, true);
        due("three at tick 0: 32 is less than 33 times 1", x.marks(), 33);
        Edges.layMany(x, 0, 1, 0, 1);
        due("four at tick 0 in room 3", x.marks(), NOT);
        x.share(1);
        due("a RUN loses none, as they wait", x.run(0, SHARED), 4);
    }

    private static void marksIsNotSet() {
        Edges.sentence("MARKS: that a (it is not set). NOT.");
        LetterStore x = Edges.storeWith(2);
        Edges.layMany(x, 0, 2, 0, 0);
        x.pass(0, true);
        x.run(1, FIXED);
        due("marks()", x.marks(), 17);
        due("a is 16", x.run(0, SHARED), 1);
        due("share(5)", x.share(5), 16);
        Edges.layMany(x, 0, 1, 0, 0);
        due("marks()", x.marks(), NOT);
        due("share(5)", x.share(5), 5);
        due("the latest RUN stays", x.sum(-1, 0), 1);
    }

    private static void witnessAheadOfMarks() {
        Edges.sentence("THE WITNESS by the latest marks(): a ROW; -1: it told an a, or there was none.");
        LetterStore x = Edges.storeWith(1);
        due("there was none", x.witness(), -1);
        Edges.layMany(x, 0, 2, 0, 0);
        x.pass(0, true);
        due("there was none, though ROW 0 has no a", x.witness(), -1);
        due("marks()", x.marks(), NOT);
        due("witness()", x.witness(), 0);
        x.room(2);
        due("marks()", x.marks(), 17);
        due("it told an a", x.witness(), -1);
    }

    private static void witnessFirstRow() {
        Edges.sentence("THE WITNESS is the first ROW told to PASS that has none alone.");
        LetterStore x = Edges.storeWith(2);
        Edges.layMany(x, 0, 3, 0, 0);
        Edges.layMany(x, 1, 2, 0, 0);
        Edges.layMany(x, 2, 3, 0, 0);
        Edges.layMany(x, 3, 3, 0, 0);
        x.pass(3, true);
        due("marks()", x.marks(), NOT);
        due("ROW 3 alone", x.witness(), 3);
        x.pass(1, true);
        x.marks();
        due("ROW 1 has one", x.witness(), 3);
        x.pass(2, true);
        x.marks();
        due("ROW 2 is ahead of ROW 3", x.witness(), 2);
        x.pass(0, true);
        x.marks();
        due("ROW 0 is ahead of all", x.witness(), 0);
        x.pass(0, false);
        x.marks();
        due("ROW 0 is not told to PASS any more", x.witness(), 2);
    }

    private static void witnessByLatestMarks() {
        Edges.sentence("THE WITNESS by the latest marks()");
        LetterStore x = Edges.storeWith(2);
        Edges.layMany(x, 1, 3, 0, 0);
        x.pass(1, true);
        x.marks();
        x.clear(1);
        x.room(12);
        x.run(0, FIXED);
        x.best(1);
        due("nothing but marks() changes it", x.witness(), 1);
        due("witness() again", x.witness(), 1);
        due("marks()", x.marks(), 1);
        due("it told an a", x.witness(), -1);
    }
}
