/** Runs, promises 17 to 21: each sentence that names a boundary has a test of its own here. */
public final class RunEdgeTest {
    private static final int BAD = Edges.BAD, MIN = Edges.MIN, MAX = Edges.MAX;
    private static final int SENT = 0, REFUSED = 1, PUSHED_OUT = 2, STUCK = 3;
    private static final int FIXED = 0, SHARED = 1, PUSHED = 2, KEPT = 3;

    public static void main(String[] args) {
        runBounds();
        emptyAtFirst();
        lettersAheadOfSends();
        firstOneIsSent();
        paces();
        asLongAs();
        fixedMark();
        fixedFree();
        sharedLess();
        sharedLeastAndMost();
        sharedFree();
        pushedFree();
        pushedMoreThan();
        pushedLikeOnes();
        pushedLastLetter();
        pushedOnAndOn();
        keptPart();
        keptBeside();
        keptCountedAsPart();
        heldFromTheirTick();
        heldOneEachTick();
        heldAheadOfOthers();
        heldLineByLine();
        heldHigh();
        heldLow();
        heldBetween();
        goAheadOfAll();
        heldLag();
        heldByEachRule();
        tickFourHundred();
        justInTime();
        stuckWithoutStore();
        fates();
        fateBounds();
        fateAheadOfRun();
        sumBounds();
        sumOfAll();
        sumGreatestLength();
        sumOfLineSince();
        lengthBounds();
        lengthBehindEnd();
        lengthOfLineSince();
        ticksBounds();
        latestRunOnly();
        Edges.end();
    }

    private static void due(String call, int got, int want) {
        Edges.due(call, got, want);
    }

    private static void runBounds() {
        Edges.sentence("A RUN of a ROW by a RULE: how many letters were SENT. BAD.");
        LetterStore x = new LetterStore();
        for (int bad : new int[] {-1, 4, MIN, MAX}) {
            due("run(" + bad + ", 0)", x.run(bad, 0), BAD);
            due("run(0, " + bad + ")", x.run(0, bad), BAD);
        }
        due("these were no runs", x.ticks(), BAD);
        for (int row = 0; row < 4; row++) {
            Edges.layMany(x, row, row + 1, 0, 0);
        }
        for (int row = 0; row < 4; row++) {
            due("run(" + row + ", 0)", x.run(row, FIXED), row + 1);
            due("run(" + row + ", 2)", x.run(row, PUSHED), row + 1);
            due("run(" + row + ", 3)", x.run(row, KEPT), row + 1);
        }
    }

    private static void emptyAtFirst() {
        Edges.sentence("A RUN of a ROW by a RULE: the store is empty at first.");
        LetterStore x = slowHeldStore();
        due("a run that leaves letters in the store", x.run(0, KEPT), 76);
        Edges.layMany(x, 1, 12, 0, 0);
        due("12 of another line find room", x.run(1, FIXED), 12);
        due("none of the held line is there", x.length(1, 0), 0);
        due("its greatest length is 0", x.sum(1, 4), 0);
        due("run(0, 3) again", x.run(0, KEPT), 76);
        due("the first one at 39 again", x.fate(0, 1), 39);
    }

    /** HALT is told up to tick 3, so the end of one run would halt the next one's first letter, were it heard there. */
    private static void goAheadOfAll() {
        Edges.sentence("else as it was (GO ahead of all); .. (t - 1 - LAG below 0: it is not)");
        for (int lag = 0; lag <= 5; lag++) {
            LetterStore x = Edges.storeWith(12, 2);
            x.pace(1, 5);
            x.hold(1, 1, 0, lag);
            Edges.lay(x, 0, 0, 1);
            for (int run = 0; run < 3; run++) {
                due("run " + run + ", lag " + lag, x.run(0, KEPT), 1);
                Edges.lengths(x, 1, 1, 1, 1, 1, 0);
                due("ticks()", x.ticks(), 5);
            }
        }
    }

    private static void lettersAheadOfSends() {
        Edges.sentence("Each TICK from 0 on: first the letters of that TICK, one by one: ..; then each LINE that has letters SENDS");
        LetterStore x = Edges.storeWith(1);
        Edges.lay(x, 0, 0, 0, 0, 0, 1, 0, 39, 0);
        due("run(0, 0)", x.run(0, FIXED), 3);
        Edges.fates(x, 0, SENT, REFUSED, SENT, SENT);
        Edges.fates(x, 1, 0, 0, 1, 39);
        LetterStore y = Edges.storeWith(8, 0, 0, 0);
        Edges.lay(y, 0, 5, 3, 5, 2, 5, 1, 5, 0);
        due("four lines", y.run(0, FIXED), 4);
        Edges.fates(y, 1, 5, 5, 5, 5);
        due("ticks()", y.ticks(), 6);
    }

    private static void firstOneIsSent() {
        Edges.sentence("TAKEN (at the end of their LINE) .. SENDS its first one");
        LetterStore x = Edges.storeWith(8, 0);
        Edges.lay(x, 0, 0, 0, 0, 1, 0, 0, 0, 1, 1, 0);
        due("run(0, 0)", x.run(0, FIXED), 5);
        Edges.fates(x, 1, 0, 0, 1, 1, 2);
    }

    private static void paces() {
        Edges.sentence("at each TICK t at which t and 1 is a multiple of its PACE");
        for (int pace = 1; pace <= 5; pace++) {
            LetterStore x = Edges.storeWith(8);
            x.pace(0, pace);
            Edges.lay(x, 0, pace - 1, 0, pace, 0);
            due("run, pace " + pace, x.run(0, FIXED), 2);
            Edges.fates(x, 1, pace - 1, 2 * pace - 1);
            Edges.lay(x, 1, 0, 0, 0, 0, 0, 0);
            due("three at tick 0, pace " + pace, x.run(1, FIXED), 3);
            Edges.fates(x, 1, pace - 1, 2 * pace - 1, 3 * pace - 1);
        }
    }

    private static void asLongAs() {
        Edges.sentence("so on, as long as letters are in the store, wait or are to come");
        LetterStore x = Edges.storeWith(8, 2);
        x.run(0, FIXED);
        due("no letters: no TICK", x.ticks(), 0);
        Edges.lay(x, 0, 0, 0);
        x.run(0, FIXED);
        due("one at tick 0", x.ticks(), 1);
        x.mark(0, 0);
        Edges.lay(x, 0, 39, 0);
        due("both are refused", x.run(0, FIXED), 0);
        due("one was to come at 39", x.ticks(), 40);
        x.pace(0, 5);
        x.mark(0, 1);
        Edges.lay(x, 1, 35, 0);
        x.run(1, FIXED);
        due("one was in the store till 39", x.ticks(), 40);
        Edges.layMany(x, 2, 3, 0, 1);
        x.run(2, FIXED);
        due("held ones waited till 2", x.ticks(), 3);
    }

    private static void fixedMark() {
        Edges.sentence("RULE 0, FIXED: if x is less than its MARK");
        for (int mark = 0; mark <= 12; mark++) {
            LetterStore x = Edges.storeWith(12);
            x.mark(0, mark);
            Edges.layMany(x, 0, 13, 0, 0);
            due("13 at once, mark " + mark, x.run(0, FIXED), mark);
            due("the greatest length", x.sum(0, 4), mark);
            if (mark > 0) {
                due("the last taken one", x.fate(mark - 1, 0), SENT);
            }
            due("the first refused one", x.fate(mark, 0), REFUSED);
        }
    }

    private static void fixedFree() {
        Edges.sentence("RULE 0, FIXED: .., and FREE above 0.");
        LetterStore x = Edges.storeWith(3, 0);
        Edges.lay(x, 0, 0, 0, 0, 0, 0, 1, 0, 1, 1, 1);
        due("run(0, 0)", x.run(0, FIXED), 4);
        Edges.fates(x, 0, SENT, SENT, SENT, REFUSED, SENT);
    }

    private static void sharedLess() {
        Edges.sentence("RULE 1, SHARED: if 16 x is less than a times FREE");
        LetterStore x = Edges.storeWith(4);
        Edges.layMany(x, 0, 5, 0, 0);
        int[][] takes = {{5, 1}, {6, 2}, {16, 2}, {17, 3}, {48, 3}, {49, 4}, {160, 4}};
        for (int[] each : takes) {
            x.share(each[0]);
            due("room 4, five at once, a " + each[0], x.run(0, SHARED), each[1]);
        }
    }

    private static void sharedLeastAndMost() {
        Edges.sentence("a times FREE (a 1 .. 160; 16 at first)");
        LetterStore x = Edges.storeWith(12);
        Edges.layMany(x, 0, 12, 0, 0);
        due("a 16: 16 times 6 is not less than 16 times 6", x.run(0, SHARED), 6);
        x.share(1);
        due("a 1: 16 is not less than 11", x.run(0, SHARED), 1);
        x.share(160);
        due("a 160: 176 is not less than 160", x.run(0, SHARED), 11);
        due("the last one is refused", x.fate(11, 0), REFUSED);
    }

    private static void sharedFree() {
        Edges.sentence("RULE 1, SHARED: .., and FREE above 0.");
        LetterStore x = Edges.storeWith(2, 0, 0);
        x.share(1);
        Edges.lay(x, 0, 0, 0, 0, 1, 0, 2);
        due("a 1", x.run(0, SHARED), 2);
        Edges.fates(x, 0, SENT, SENT, REFUSED);
        x.share(160);
        due("a 160", x.run(0, SHARED), 2);
        Edges.fates(x, 0, SENT, SENT, REFUSED);
    }

    private static void pushedFree() {
        Edges.sentence("RULE 2, PUSHED: if FREE is above 0");
        LetterStore x = Edges.storeWith(3, 0);
        x.mark(0, 0);
        x.share(1);
        Edges.lay(x, 0, 0, 0, 0, 0, 0, 1);
        due("no mark or a counts, the last free place is taken", x.run(0, PUSHED), 3);
        due("none is pushed out", x.sum(-1, 2), 0);
    }

    private static void pushedMoreThan() {
        Edges.sentence("if that is more than x and 1 together, the last letter of LONGEST is PUSHED OUT, and it is TAKEN");
        LetterStore x = Edges.storeWith(1, 0);
        Edges.lay(x, 0, 0, 0, 0, 1);
        due("1 is not more than 0 and 1", x.run(0, PUSHED), 1);
        Edges.fates(x, 0, SENT, REFUSED);
        x.room(2);
        Edges.lay(x, 1, 0, 0, 0, 0, 0, 1);
        due("2 is more than 0 and 1", x.run(1, PUSHED), 2);
        Edges.fates(x, 0, SENT, PUSHED_OUT, SENT);
        Edges.fates(x, 2, -2, 2, -2);
        x.room(3);
        Edges.lay(x, 2, 0, 0, 0, 0, 0, 1, 0, 1);
        due("2 is not more than 1 and 1", x.run(2, PUSHED), 3);
        Edges.fates(x, 0, SENT, SENT, SENT, REFUSED);
        Edges.lay(x, 3, 0, 0, 0, 0, 0, 0, 0, 0);
        due("its own LINE is LONGEST", x.run(3, PUSHED), 3);
        Edges.fates(x, 0, SENT, SENT, SENT, REFUSED);
        x.room(4);
        x.clear(3);
        Edges.lay(x, 3, 0, 0, 0, 0, 0, 0, 0, 1, 0, 1);
        due("3 is more than 1 and 1", x.run(3, PUSHED), 4);
        Edges.fates(x, 0, SENT, SENT, PUSHED_OUT, SENT, SENT);
    }

    private static void pushedLikeOnes() {
        Edges.sentence("LONGEST being the LINE of most LENGTH (of like ones the greatest number)");
        int[][] likes = {{0, 1, 2}, {0, 2, 1}, {1, 2, 0}, {1, 3, 0}, {0, 3, 2}, {2, 3, 1}};
        for (int[] like : likes) {
            LetterStore x = Edges.storeWith(4, 0, 0, 0);
            int less = like[0];
            int greater = like[1];
            Edges.lay(x, 0, 0, greater, 0, greater, 0, less, 0, less, 0, like[2]);
            due("lines " + less + " and " + greater + " are alike", x.run(0, PUSHED), 4);
            Edges.fates(x, 0, SENT, PUSHED_OUT, SENT, SENT, SENT);
            Edges.fates(x, 2, -2, 4, -2, -2, -2);
        }
        LetterStore y = Edges.storeWith(5, 0, 0);
        Edges.lay(y, 0, 0, 0, 0, 0, 0, 0, 0, 1, 0, 1, 0, 2);
        due("the least number, if it is the longest alone", y.run(0, PUSHED), 5);
        Edges.fates(y, 0, SENT, SENT, PUSHED_OUT, SENT, SENT, SENT);
    }

    private static void pushedLastLetter() {
        Edges.sentence("the last letter of LONGEST is PUSHED OUT");
        LetterStore x = Edges.storeWith(3, 0);
        x.pace(0, 5);
        Edges.lay(x, 0, 0, 0, 1, 0, 2, 0, 3, 1);
        due("run(0, 2)", x.run(0, PUSHED), 3);
        Edges.fates(x, 0, SENT, SENT, PUSHED_OUT, SENT);
        Edges.fates(x, 1, 4, 9, 3, 3);
        Edges.lengths(x, 0, 1, 2, 3, 2, 1, 1, 1, 1, 1, 0);
    }

    /** The ring of a line's letters goes round while letters come, are sent and are pushed out. */
    private static void pushedOnAndOn() {
        Edges.sentence("RULE 2, PUSHED: .. else, LONGEST being the LINE of most LENGTH");
        LetterStore x = Edges.storeWith(12, 0);
        x.pace(1, 5);
        Edges.layMany(x, 0, 12, 0, 0);
        Edges.layMany(x, 0, 12, 11, 0);
        Edges.layMany(x, 0, 7, 11, 1);
        due("12 are sent, 5 of line 0 and 6 of line 1 behind them", x.run(0, PUSHED), 23);
        due("6 are pushed out", x.sum(0, 2), 6);
        due("the seventh is refused", x.sum(1, 1), 1);
        for (int k = 0; k < 12; k++) {
            due("one each tick", x.fate(k, 1), k);
        }
        // At tick 11 letter 11 is still there: 11 of the second twelve are taken, the last one is refused.
        due("the last one of line 0 is refused", x.fate(23, 0), REFUSED);
        for (int k = 12; k < 17; k++) {
            due("one each tick from 12 on", x.fate(k, 1), k);
        }
        for (int k = 17; k < 23; k++) {
            due("pushed out at 11", x.fate(k, 1), 11);
            due("the last one first", x.fate(k, 2), 24 + 22 - k);
        }
    }

    private static void keptPart() {
        Edges.sentence("RULE 3, KEPT: if it is SURE (HELD) and x is less than its PART");
        for (int part = 0; part <= 4; part++) {
            LetterStore x = Edges.storeWith(4, 1);
            x.part(1, part);
            Edges.layMany(x, 0, 5, 0, 0);
            Edges.layMany(x, 0, 5, 0, 1);
            due("part " + part + " of 4", x.run(0, KEPT), 4);
            due("LINE 0 has what is beside", x.sum(0, 4), 4 - part);
            due("LINE 1 has its part", x.sum(1, 4), part);
        }
        LetterStore y = Edges.storeWith(4, 2);
        y.part(1, 4);
        Edges.lay(y, 0, 0, 0, 0, 1);
        due("PARTS are B: nothing beside", y.run(0, KEPT), 1);
        Edges.fates(y, 0, REFUSED, SENT);
    }

    private static void keptBeside() {
        Edges.sentence("else if there is ROOM beside: all LENGTHS together, .., are less than B");
        LetterStore x = Edges.storeWith(5, 1);
        x.part(1, 2);
        Edges.layMany(x, 0, 6, 0, 1);
        due("a SURE one beyond its PART: 5 of 6", x.run(0, KEPT), 5);
        Edges.lay(x, 1, 0, 0);
        Edges.layMany(x, 1, 5, 0, 1);
        due("one of LINE 0, four beside it", x.run(1, KEPT), 5);
        due("four are taken", x.sum(1, 4), 4);
        Edges.layMany(x, 2, 4, 0, 0);
        due("PART 2 of 5 is kept: 3", x.run(2, KEPT), 3);
        Edges.fates(x, 0, SENT, SENT, SENT, REFUSED);
    }

    private static void keptCountedAsPart() {
        Edges.sentence("a SURE one's counted as its PART if that is more");
        LetterStore x = Edges.storeWith(6, 1, 2);
        x.part(1, 2);
        x.part(2, 1);
        // Counted are 3 of line 1 (more than its part), 1 for line 2 (its part), so 2 of line 0 find room.
        Edges.layMany(x, 0, 3, 0, 1);
        Edges.layMany(x, 0, 3, 0, 0);
        Edges.layMany(x, 0, 1, 1, 2);
        due("run(0, 3)", x.run(0, KEPT), 6);
        Edges.fates(x, 0, SENT, SENT, SENT, SENT, SENT, REFUSED, SENT);
        // One of line 1 is less than its part: counted as 2.
        Edges.layMany(x, 1, 1, 0, 1);
        Edges.layMany(x, 1, 4, 0, 0);
        due("run(1, 3)", x.run(1, KEPT), 4);
        Edges.fates(x, 0, SENT, SENT, SENT, SENT, REFUSED);
        // Two of line 1 are its part: the third needs room beside.
        Edges.layMany(x, 2, 3, 0, 0);
        Edges.layMany(x, 2, 3, 0, 1);
        due("run(2, 3)", x.run(2, KEPT), 5);
        Edges.fates(x, 0, SENT, SENT, SENT, SENT, SENT, REFUSED);
    }

    private static void heldFromTheirTick() {
        Edges.sentence("HELD LINES: their letters wait with the sender, in order, from their TICK on.");
        LetterStore x = Edges.storeWith(8, 2);
        Edges.lay(x, 0, 3, 1, 3, 1, 9, 1, 39, 1);
        due("run(0, 0)", x.run(0, FIXED), 4);
        Edges.fates(x, 1, 3, 4, 9, 39);
        due("ticks()", x.ticks(), 40);
    }

    private static void heldOneEachTick() {
        Edges.sentence("the sender of a HELD LINE sends one of them, if there is one and it is not HALTED");
        LetterStore x = Edges.storeWith(1, 2);
        Edges.layMany(x, 0, 80, 0, 1);
        due("80 in room 1", x.run(0, FIXED), 80);
        due("ticks()", x.ticks(), 80);
        due("the last one", x.fate(79, 1), 79);
        due("the greatest length", x.sum(1, 4), 1);
    }

    private static void heldAheadOfOthers() {
        Edges.sentence("At each TICK, ahead of all letters of other LINES");
        LetterStore x = Edges.storeWith(1, 2, 1);
        Edges.lay(x, 0, 0, 0, 0, 2, 0, 1);
        for (int rule = 0; rule < 4; rule++) {
            due("by rule " + rule, x.run(0, rule), 1);
            Edges.fates(x, 0, REFUSED, REFUSED, SENT);
        }
    }

    private static void heldLineByLine() {
        Edges.sentence("ahead of all letters of other LINES, LINE by LINE");
        LetterStore x = Edges.storeWith(2, 2, 2, 2);
        Edges.lay(x, 0, 0, 3, 0, 2, 0, 1);
        due("three held lines in room 2", x.run(0, FIXED), 2);
        Edges.fates(x, 0, REFUSED, SENT, SENT);
        x.room(1);
        due("three held lines in room 1", x.run(0, FIXED), 1);
        Edges.fates(x, 0, REFUSED, REFUSED, SENT);
    }

    /** One held line of pace 5 with part 12 of room 12, and 20 letters from tick 0 on. */
    private static LetterStore heldStore(int high, int low, int lag) {
        LetterStore x = Edges.storeWith(12, 2);
        x.part(1, 12);
        x.pace(1, 5);
        due("hold", x.hold(1, high, low, lag), 1);
        Edges.layMany(x, 0, 20, 0, 1);
        due("all are sent", x.run(0, KEPT), 20);
        return x;
    }

    private static void heldHigh() {
        Edges.sentence("HALT, if its LENGTH is HIGH or more");
        Edges.lengths(heldStore(1, 0, 0), 1, 1, 1, 1, 1, 0, 1, 1, 1, 1, 0);
        Edges.lengths(heldStore(2, 1, 0), 1, 1, 2, 2, 2, 1, 2, 2, 2, 2, 1);
        Edges.lengths(heldStore(4, 3, 0), 1, 1, 2, 3, 4, 3, 4, 4, 4, 4, 3);
        // HIGH 2 is told at the end of 1 and heard at 4: by then 4, which is more, is there.
        Edges.lengths(heldStore(2, 1, 2), 1, 1, 2, 3, 4, 3, 3, 3, 3, 3, 2, 2, 2, 2, 2, 1, 1, 1, 2, 3, 3);
        Edges.lengths(heldStore(12, 11, 0), 1, 1, 2, 3, 4, 4, 5, 6, 7, 8, 8, 9, 10, 11, 12, 11, 12, 12);
    }

    private static void heldLow() {
        Edges.sentence("GO, if it is LOW or less");
        Edges.lengths(heldStore(3, 2, 0), 1, 1, 2, 3, 3, 2, 3, 3, 3, 3, 2);
        Edges.lengths(heldStore(3, 1, 0), 1, 1, 2, 3, 3, 2, 2, 2, 2, 2, 1, 2, 3, 3, 3, 2, 2);
        Edges.lengths(heldStore(3, 0, 0), 1, 1, 2, 3, 3, 2, 2, 2, 2, 2, 1, 1, 1, 1, 1, 0, 1, 2, 3, 3, 2);
    }

    private static void heldBetween() {
        Edges.sentence("else as it was (GO ahead of all)");
        LetterStore x = heldStore(4, 0, 0);
        // Up through 1, 2, 3 it is GO as it was, down through 3, 2, 1 it is HALT as it was.
        Edges.lengths(x, 1, 1, 2, 3, 4, 3, 3, 3, 3, 3, 2, 2, 2, 2, 2, 1, 1, 1, 1, 1, 0, 1, 2, 3, 4, 3, 3);
    }

    private static void heldLag() {
        Edges.sentence("the sender is HALTED, if what was told at the end of TICK t - 1 - LAG is HALT (t - 1 - LAG below 0: it is not)");
        for (int lag = 0; lag <= 5; lag++) {
            LetterStore x = Edges.storeWith(12, 2);
            x.part(1, 12);
            x.pace(1, 5);
            x.hold(1, 1, 0, lag);
            Edges.layMany(x, 0, 12, 0, 1);
            due("run, lag " + lag, x.run(0, KEPT), 12);
            // HALT is told at the end of 0: ticks 0 .. LAG bring a letter, tick LAG and 1 brings none.
            due("length ahead of it", x.length(1, lag), lag < 4 ? lag + 1 : lag);
            due("length when it is halted", x.length(1, lag + 1), lag < 3 ? lag + 1 : lag);
        }
        Edges.lengths(heldStore(1, 0, 5), 1, 1, 2, 3, 4, 4, 5, 5, 5, 5, 4, 4, 4, 4, 4, 3);
        // Sends at 4, 9, .., 29 empty it; GO of tick 29 is heard at 35, and six come again.
        LetterStore y = heldStore(1, 0, 5);
        due("empty at 29", y.length(1, 29), 0);
        due("empty at 34", y.length(1, 34), 0);
        due("one at 35", y.length(1, 35), 1);
        due("four at 38", y.length(1, 38), 4);
        due("five come, one is sent at 39", y.length(1, 39), 4);
        due("the sixth at 40", y.length(1, 40), 5);
        due("none at 41", y.length(1, 41), 5);
    }

    private static void heldByEachRule() {
        Edges.sentence("that is TAKEN or REFUSED like others");
        LetterStore x = Edges.storeWith(2, 2);
        x.pace(1, 5);
        x.hold(1, 12, 0, 0);
        Edges.layMany(x, 0, 4, 0, 1);
        due("room 2: two are refused", x.run(0, FIXED), 2);
        Edges.fates(x, 0, SENT, SENT, REFUSED, REFUSED);
        Edges.fates(x, 1, 4, 9, 2, 3);
        x.mark(1, 1);
        due("mark 1", x.run(0, FIXED), 1);
        Edges.fates(x, 1, 4, 1, 2, 3);
        due("a 16: 1 is not less than 1", x.run(0, SHARED), 1);
        x.share(17);
        due("a 17", x.run(0, SHARED), 2);
        due("part 0: room beside", x.run(0, KEPT), 2);
    }

    /** From tick 39 on: one letter each five ticks, four at most in the store. */
    private static LetterStore slowHeldStore() {
        LetterStore x = Edges.storeWith(12, 2);
        x.pace(1, 5);
        x.hold(1, 4, 3, 0);
        Edges.layMany(x, 0, 80, 39, 1);
        return x;
    }

    private static void tickFourHundred() {
        Edges.sentence("A RUN that comes to TICK 400 ends ahead of it; what waits then is STUCK, what is in the store is as SENT at TICK 400.");
        LetterStore x = slowHeldStore();
        due("73 are sent at 39, 44, .., 399, three are in the store", x.run(0, KEPT), 76);
        due("ticks()", x.ticks(), 400);
        due("sum(1, 0)", x.sum(1, 0), 76);
        due("sum(-1, 3)", x.sum(-1, 3), 4);
        due("the first one", x.fate(0, 1), 39);
        due("the last one in time", x.fate(72, 1), 399);
        for (int k = 73; k < 76; k++) {
            due("as SENT", x.fate(k, 0), SENT);
            due("as SENT at 400", x.fate(k, 1), 400);
        }
        for (int k = 76; k < 80; k++) {
            due("STUCK", x.fate(k, 0), STUCK);
            due("STUCK: 400", x.fate(k, 1), 400);
            due("STUCK: none pushed it out", x.fate(k, 2), -2);
        }
        due("at the end of 398", x.length(1, 398), 4);
        due("at the end of 399", x.length(1, 399), 3);
        due("length(1, 400)", x.length(1, 400), BAD);
    }

    private static void justInTime() {
        Edges.sentence("A RUN that comes to TICK 400 ends ahead of it");
        LetterStore x = Edges.storeWith(12, 2);
        x.pace(1, 5);
        x.hold(1, 1, 0, 0);
        Edges.layMany(x, 0, 80, 4, 1);
        // One at 4, then one at each of 5, 10, .., sent at 9, 14, ..: letter k at 4 and 5 k together.
        due("all are sent", x.run(0, KEPT), 80);
        due("the last one, at 399", x.fate(79, 1), 399);
        due("ticks()", x.ticks(), 400);
        due("sum(-1, 3)", x.sum(-1, 3), 0);
        x.clear(0);
        Edges.layMany(x, 0, 79, 4, 1);
        due("79 of them", x.run(0, KEPT), 79);
        due("the last one, at 394", x.fate(78, 1), 394);
        due("ticks()", x.ticks(), 395);
        x.clear(0);
        Edges.layMany(x, 0, 80, 5, 1);
        due("from 5 on the last one would come at 400", x.run(0, KEPT), 79);
        due("the last one", x.fate(79, 0), STUCK);
        due("the one ahead of it, at 399", x.fate(78, 1), 399);
        due("ticks()", x.ticks(), 400);
        x.hold(1, 2, 1, 0);
        due("with HIGH 2 it comes at 395", x.run(0, KEPT), 80);
        due("the last one, as SENT", x.fate(79, 0), SENT);
        due("the last one, at 400", x.fate(79, 1), 400);
        due("the one ahead of it, at 399", x.fate(78, 1), 399);
        due("ticks()", x.ticks(), 400);
    }

    private static void stuckWithoutStore() {
        Edges.sentence("what waits then is STUCK");
        LetterStore x = Edges.storeWith(12, 2);
        x.pace(1, 5);
        x.hold(1, 1, 0, 0);
        Edges.layMany(x, 0, 80, 39, 1);
        due("sent at 39, 44, .., 399", x.run(0, KEPT), 73);
        due("none is in the store", x.length(1, 399), 0);
        due("the last one in time", x.fate(72, 1), 399);
        due("the first stuck one", x.fate(73, 0), STUCK);
        due("sum(1, 3)", x.sum(1, 3), 7);
    }

    private static void fates() {
        Edges.sentence("FATES of letters: 0 SENT (at a TICK), 1 REFUSED (at a TICK), 2 PUSHED OUT (at a TICK), 3 STUCK.");
        LetterStore x = Edges.storeWith(2, 0, 2);
        x.pace(0, 5);
        x.pace(2, 5);
        x.hold(2, 1, 0, 0);
        Edges.lay(x, 0, 1, 0, 1, 0, 2, 1, 3, 0);
        Edges.layMany(x, 0, 76, 39, 2);
        // Line 2 from 39 on: sent at 39, 44, .., 399, that are 73; three are stuck.
        due("run(0, 2)", x.run(0, PUSHED), 76);
        Edges.fates(x, 0, SENT, PUSHED_OUT, SENT, SENT);
        Edges.fates(x, 1, 4, 2, 2, 9);
        Edges.fates(x, 2, -2, 2, -2, -2);
        due("stuck", x.sum(2, 3), 3);
        x.clear(0);
        Edges.lay(x, 0, 1, 0, 1, 0, 2, 1, 2, 1);
        due("run(0, 2)", x.run(0, PUSHED), 2);
        Edges.fates(x, 0, SENT, PUSHED_OUT, SENT, REFUSED);
        Edges.fates(x, 1, 4, 2, 2, 2);
    }

    private static void fateBounds() {
        Edges.sentence("the FATE of letter k (what 0), its TICK (1; STUCK: 400), which letter pushed it out (2; -2: none did). BAD");
        LetterStore x = Edges.storeWith(2, 0);
        Edges.lay(x, 0, 0, 0, 0, 0, 0, 1);
        x.run(0, PUSHED);
        Edges.fates(x, 2, -2, 2, -2);
        for (int what = 0; what < 3; what++) {
            for (int k : new int[] {-1, 3, 80, MIN, MAX}) {
                due("fate(" + k + ", " + what + ")", x.fate(k, what), BAD);
            }
        }
        for (int what : new int[] {-1, 3, MIN, MAX}) {
            due("fate(0, " + what + ")", x.fate(0, what), BAD);
            due("fate(2, " + what + ")", x.fate(2, what), BAD);
        }
    }

    private static void fateAheadOfRun() {
        Edges.sentence("Of the latest RUN: .. BAD: also ahead of a RUN.");
        LetterStore x = Edges.storeWith(2);
        Edges.lay(x, 0, 0, 0);
        x.best(0);
        x.shortBy(0, PUSHED);
        x.pass(0, true);
        x.marks();
        x.run(4, 0);
        for (int what = 0; what < 3; what++) {
            due("fate(0, " + what + ")", x.fate(0, what), BAD);
        }
        for (int what = 0; what < 5; what++) {
            due("sum(-1, " + what + ")", x.sum(-1, what), BAD);
            due("sum(0, " + what + ")", x.sum(0, what), BAD);
        }
        due("length(0, 0)", x.length(0, 0), BAD);
        due("length(0, 399)", x.length(0, 399), BAD);
        due("ticks()", x.ticks(), BAD);
        x.run(1, 0);
        due("behind a run of an empty row: fate(0, 0)", x.fate(0, 0), BAD);
        due("behind a run of an empty row: sum(0, 0)", x.sum(0, 0), 0);
        due("behind a run of an empty row: length(0, 0)", x.length(0, 0), 0);
        due("behind a run of an empty row: ticks()", x.ticks(), 0);
    }

    private static void sumBounds() {
        Edges.sentence("for a LINE (-1: all): 0 .. 3 how many letters of that FATE, 4 the greatest LENGTH .. BAD");
        LetterStore x = Edges.storeWith(2, 0);
        Edges.lay(x, 0, 0, 0, 0, 0, 0, 1);
        x.run(0, PUSHED);
        for (int line : new int[] {-2, 2, 4, MIN, MAX}) {
            for (int what = 0; what < 5; what++) {
                due("sum(" + line + ", " + what + ")", x.sum(line, what), BAD);
            }
        }
        for (int what : new int[] {-1, 5, MIN, MAX}) {
            due("sum(-1, " + what + ")", x.sum(-1, what), BAD);
            due("sum(0, " + what + ")", x.sum(0, what), BAD);
        }
    }

    private static void sumOfAll() {
        Edges.sentence("for a LINE (-1: all): 0 .. 3 how many letters of that FATE");
        LetterStore x = Edges.storeWith(3, 0, 2);
        x.pace(0, 5);
        x.pace(2, 5);
        x.hold(2, 1, 0, 0);
        Edges.lay(x, 0, 0, 0, 0, 0, 0, 0, 0, 0, 0, 1, 0, 1);
        Edges.layMany(x, 0, 74, 39, 2);
        due("run(0, 2)", x.run(0, PUSHED), 76);
        int[][] want = {{76, 2, 1, 1}, {2, 1, 1, 0}, {1, 1, 0, 0}, {73, 0, 0, 1}};
        for (int line = -1; line < 3; line++) {
            for (int what = 0; what < 4; what++) {
                due("sum(" + line + ", " + what + ")", x.sum(line, what), want[line + 1][what]);
            }
        }
    }

    private static void sumGreatestLength() {
        Edges.sentence("4 the greatest LENGTH (of all together) behind any letter");
        LetterStore x = Edges.storeWith(12, 0);
        Edges.lay(x, 0, 0, 0);
        x.run(0, FIXED);
        due("one that is sent in its tick", x.sum(0, 4), 1);
        due("its length at the end of it", x.length(0, 0), 0);
        due("of all", x.sum(-1, 4), 1);
        due("of a line without letters", x.sum(1, 4), 0);
        Edges.lay(x, 1, 0, 0, 0, 0, 0, 0, 5, 1, 5, 1);
        x.run(1, FIXED);
        due("of line 0", x.sum(0, 4), 3);
        due("of line 1", x.sum(1, 4), 2);
        due("of all, at different ticks", x.sum(-1, 4), 3);
        x.mark(0, 0);
        x.mark(1, 0);
        x.run(1, FIXED);
        due("all are refused", x.sum(-1, 4) + x.sum(0, 4) + x.sum(1, 4), 0);
        x.room(2);
        Edges.lay(x, 2, 0, 0, 0, 0, 0, 1);
        x.run(2, PUSHED);
        due("of all, with one pushed out", x.sum(-1, 4), 2);
        due("of line 0, ahead of that", x.sum(0, 4), 2);
        due("of line 1", x.sum(1, 4), 1);
        x.room(12);
        Edges.layMany(x, 3, 13, 0, 0);
        x.run(3, PUSHED);
        due("of all, the most", x.sum(-1, 4), 12);
    }

    private static void sumOfLineSince() {
        Edges.sentence("(0 of a LINE that came since)");
        LetterStore x = Edges.storeWith(8, 0);
        Edges.lay(x, 0, 0, 0, 0, 1);
        x.run(0, FIXED);
        due("sum(2, 4)", x.sum(2, 4), BAD);
        for (int line = 2; line < 4; line++) {
            x.line(line - 1, 5);
            for (int what = 0; what < 5; what++) {
                due("sum(" + line + ", " + what + ")", x.sum(line, what), 0);
            }
        }
        due("sum(1, 4)", x.sum(1, 4), 1);
        due("sum(-1, 0)", x.sum(-1, 0), 2);
    }

    private static void lengthBounds() {
        Edges.sentence("the LENGTH of a LINE at the end of a TICK (0 .. 399; behind SENDS; ..). BAD");
        LetterStore x = Edges.storeWith(8, 0);
        Edges.lay(x, 0, 0, 0, 0, 0, 0, 0, 1, 1);
        x.run(0, FIXED);
        Edges.lengths(x, 0, 2, 1, 0, 0);
        Edges.lengths(x, 1, 0, 0, 0, 0);
        due("length(0, 399)", x.length(0, 399), 0);
        for (int tick : new int[] {-1, 400, MIN, MAX}) {
            due("length(0, " + tick + ")", x.length(0, tick), BAD);
        }
        for (int line : new int[] {-1, 2, 4, MIN, MAX}) {
            due("length(" + line + ", 0)", x.length(line, 0), BAD);
        }
    }

    private static void lengthBehindEnd() {
        Edges.sentence("0 behind its end");
        LetterStore x = Edges.storeWith(8);
        x.pace(0, 5);
        Edges.lay(x, 0, 0, 0);
        x.run(0, FIXED);
        due("ticks()", x.ticks(), 5);
        Edges.lengths(x, 0, 1, 1, 1, 1, 0, 0, 0);
        due("length(0, 399)", x.length(0, 399), 0);
        x.mark(0, 0);
        x.run(0, FIXED);
        due("ticks()", x.ticks(), 1);
        Edges.lengths(x, 0, 0, 0, 0);
        due("of a refused one, length(0, 399)", x.length(0, 399), 0);
    }

    private static void lengthOfLineSince() {
        Edges.sentence("0 behind its end, and of a LINE that came since");
        LetterStore x = slowHeldStore();
        x.run(0, KEPT);
        due("length(2, 399)", x.length(2, 399), BAD);
        x.line(0, 1);
        due("length(2, 399)", x.length(2, 399), 0);
        due("length(2, 40)", x.length(2, 40), 0);
        due("length(1, 399)", x.length(1, 399), 3);
    }

    private static void ticksBounds() {
        Edges.sentence("Of the latest RUN: how many TICKS it had. BAD: there was none.");
        LetterStore x = new LetterStore();
        due("ticks()", x.ticks(), BAD);
        x.run(0, 0);
        due("of an empty row", x.ticks(), 0);
        Edges.lay(x, 0, 39, 0);
        x.run(0, 0);
        due("tick 39", x.ticks(), 40);
        x.run(0, 4);
        due("what answers BAD changes nothing", x.ticks(), 40);
        x.run(1, 0);
        due("of an empty row again", x.ticks(), 0);
    }

    private static void latestRunOnly() {
        Edges.sentence("Of the latest RUN");
        LetterStore x = Edges.storeWith(2, 0);
        Edges.lay(x, 0, 0, 0, 0, 0, 0, 0, 1, 0);
        Edges.lay(x, 1, 2, 1);
        x.run(0, FIXED);
        x.mark(0, 0);
        x.pace(0, 5);
        x.room(1);
        x.share(1);
        x.shortBy(1, PUSHED);
        x.best(1);
        x.clear(0);
        Edges.lay(x, 0, 7, 1);
        Edges.fates(x, 0, SENT, SENT, REFUSED, SENT, BAD);
        Edges.fates(x, 1, 0, 1, 0, 2, BAD);
        Edges.lengths(x, 0, 1, 1, 0);
        due("ticks()", x.ticks(), 3);
        due("sum(0, 4)", x.sum(0, 4), 2);
        x.run(1, FIXED);
        Edges.fates(x, 0, SENT, BAD, BAD);
        Edges.fates(x, 1, 2, BAD);
        due("ticks()", x.ticks(), 3);
        due("sum(0, 0)", x.sum(0, 0), 0);
        due("sum(0, 4)", x.sum(0, 4), 0);
        due("sum(1, 0)", x.sum(1, 0), 1);
        due("sum(-1, 4)", x.sum(-1, 4), 1);
        Edges.lengths(x, 0, 0, 0, 0);
    }
}
