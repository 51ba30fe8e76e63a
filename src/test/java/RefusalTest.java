import java.util.ArrayList;
import java.util.List;
import java.util.function.ToIntFunction;

/** Refused calls change nothing, calls that only tell change nothing, and the 512th call answers like the first. */
public final class RefusalTest {
    private static final int BAD = Edges.BAD, NOT = Edges.NOT, FULL = Edges.FULL, NULL = Edges.NULL;
    private static final int CAST = Edges.CAST, INDEX = Edges.INDEX, SIZE = Edges.SIZE;
    private static final int MIN = Edges.MIN, MAX = Edges.MAX;
    private static final int MOST_CALLS = 512;

    private static final List<String> names = new ArrayList<>();
    private static final List<ToIntFunction<LetterStore>> calls = new ArrayList<>();
    private static final List<Integer> answers = new ArrayList<>();

    public static void main(String[] args) {
        constants();
        refusedOfLines();
        refusedOfSheets();
        refusedOfLetters();
        refusedOfRuns();
        Edges.sentence("What answers so changes nothing.");
        eachChangesNothing();
        allTogetherChangeNothing();
        tellingChangesNothing();
        lastCall();
        Edges.end();
    }

    private static void constants() {
        Edges.sentence("BAD -1 .., NOT -2 (as told), FULL -3; what the machine finds: NULL -11, CAST -12, INDEX -13, SIZE -14");
        Edges.due("BAD", LetterStore.BAD, -1);
        Edges.due("NOT", LetterStore.NOT, -2);
        Edges.due("FULL", LetterStore.FULL, -3);
        Edges.due("NULL", LetterStore.NULL, -11);
        Edges.due("CAST", LetterStore.CAST, -12);
        Edges.due("INDEX", LetterStore.INDEX, -13);
        Edges.due("SIZE", LetterStore.SIZE, -14);
    }

    private static void refused(String name, int answer, ToIntFunction<LetterStore> call) {
        names.add(name);
        answers.add(answer);
        calls.add(call);
    }

    /** Four lines, PARTS 9 of 9; rows 0 (8 letters), 1 (80) and 2 (2); sheets 0 bytes, 1 shorts, 2 ints, 3 nothing. */
    private static LetterStore busyStore() {
        LetterStore x = new LetterStore();
        x.room(9);
        x.line(1, 7);
        x.line(2, 9);
        x.line(0, 3);
        x.part(1, 4);
        x.part(2, 5);
        x.hold(2, 3, 1, 2);
        x.pace(0, 2);
        x.pace(2, 3);
        x.share(20);
        Edges.layMany(x, 1, 80, 5, 0);
        Edges.lay(x, 2, 7, 3, 8, 2);
        Edges.lay(x, 0, 0, 0, 0, 0, 0, 1, 1, 2, 1, 2, 2, 3, 2, 0, 3, 1);
        for (int lane = 0; lane < 3; lane++) {
            x.sheet(lane, lane, 6 + lane);
            for (int i = 0; i < 6; i++) {
                x.item(lane, lane, i, i / 2);
            }
        }
        x.drop(3);
        x.pass(1, true);
        x.pass(2, true);
        x.run(0, 2);
        x.marks();
        return x;
    }

    /** All that can be seen of a store, in words; asking changes it, so a store is asked once. */
    private static String allOf(LetterStore x) {
        StringBuilder text = new StringBuilder();
        add(text, "witness", x.witness());
        add(text, "ticks", x.ticks());
        for (int k = 0; k < 9; k++) {
            for (int what = 0; what < 3; what++) {
                add(text, "fate", x.fate(k, what));
            }
        }
        for (int line = -1; line < 5; line++) {
            for (int what = 0; what < 5; what++) {
                add(text, "sum", x.sum(line, what));
            }
            for (int what = 0; what < 8; what++) {
                add(text, "told", x.told(line, what));
            }
            for (int tick = 0; line >= 0 && tick < 8; tick++) {
                add(text, "length", x.length(line, tick));
            }
        }
        addRows(text, x);
        addSheets(text, x);
        add(text, "room", x.room(12));
        add(text, "share", x.share(1));
        add(text, "line", x.line(0, 0));
        return text.toString();
    }

    private static void addRows(StringBuilder text, LetterStore x) {
        add(text, "marks", x.marks());
        add(text, "witness", x.witness());
        for (int row = 0; row < 4; row++) {
            int size = x.letter(row, -1, 0);
            add(text, "row", size);
            for (int k = 0; k < Math.min(size + 1, 9); k++) {
                add(text, "tick", x.letter(row, k, 0));
                add(text, "line", x.letter(row, k, 1));
            }
            add(text, "best", x.best(row));
            add(text, "short", x.shortBy(row, 1));
        }
        for (int row = 3; row >= 0; row--) {
            add(text, "pass", x.pass(row, false));
        }
    }

    private static void addSheets(StringBuilder text, LetterStore x) {
        for (int lane = 0; lane < 3; lane++) {
            add(text, "clear", x.clear(3));
            int laid = x.letters(3, lane, lane, 0, 3);
            add(text, "letters", laid);
            for (int k = 0; k < laid; k++) {
                add(text, "tick", x.letter(3, k, 0));
                add(text, "line", x.letter(3, k, 1));
            }
        }
        for (int sheet = 0; sheet < 4; sheet++) {
            add(text, "drop", x.drop(sheet));
        }
    }

    private static void add(StringBuilder text, String name, int answer) {
        text.append(name).append(' ').append(answer).append(", ");
    }

    private static void refusedOfLines() {
        refused("room(0)", BAD, x -> x.room(0));
        refused("room(13)", BAD, x -> x.room(13));
        refused("room(8), PARTS 9", BAD, x -> x.room(8));
        refused("line(3, 0)", BAD, x -> x.line(3, 0));
        refused("line(0, 13)", BAD, x -> x.line(0, 13));
        refused("line(1, 0), PARTS 9 of 9", NOT, x -> x.line(1, 0));
        refused("line(0, 0), four are there", FULL, x -> x.line(0, 0));
        refused("mark(0, 13)", BAD, x -> x.mark(0, 13));
        refused("mark(0, -1)", BAD, x -> x.mark(0, -1));
        refused("mark(4, 1)", BAD, x -> x.mark(4, 1));
        refused("pace(0, 0)", BAD, x -> x.pace(0, 0));
        refused("pace(0, 6)", BAD, x -> x.pace(0, 6));
        refused("pace(-1, 1)", BAD, x -> x.pace(-1, 1));
        refused("part(1, 13)", BAD, x -> x.part(1, 13));
        refused("part(1, -1)", BAD, x -> x.part(1, -1));
        refused("part(0, 0)", CAST, x -> x.part(0, 0));
        refused("part(1, 5), PARTS 9 of 9", NOT, x -> x.part(1, 5));
        refused("hold(2, 13, 0, 0)", BAD, x -> x.hold(2, 13, 0, 0));
        refused("hold(2, 4, 4, 0)", BAD, x -> x.hold(2, 4, 4, 0));
        refused("hold(2, 4, 0, 6)", BAD, x -> x.hold(2, 4, 0, 6));
        refused("hold(2, 4, -1, 0)", BAD, x -> x.hold(2, 4, -1, 0));
        refused("hold(1, 4, 0, 0)", CAST, x -> x.hold(1, 4, 0, 0));
        refused("hold(4, 4, 0, 0)", BAD, x -> x.hold(4, 4, 0, 0));
        refused("told(4, 0)", BAD, x -> x.told(4, 0));
        refused("told(0, 8)", BAD, x -> x.told(0, 8));
        refused("share(0)", BAD, x -> x.share(0));
        refused("share(161)", BAD, x -> x.share(161));
    }

    private static void refusedOfSheets() {
        refused("sheet(0, 0, 161)", BAD, x -> x.sheet(0, 0, 161));
        refused("sheet(0, 3, 1)", BAD, x -> x.sheet(0, 3, 1));
        refused("sheet(4, 0, 1)", BAD, x -> x.sheet(4, 0, 1));
        refused("sheet(0, 0, -1)", SIZE, x -> x.sheet(0, 0, -1));
        refused("sheet(3, 0, MIN)", SIZE, x -> x.sheet(3, 0, MIN));
        refused("drop(4)", BAD, x -> x.drop(4));
        refused("drop(3)", NULL, x -> x.drop(3));
        refused("item(0, 3, 0, 9)", BAD, x -> x.item(0, 3, 0, 9));
        refused("item(-1, 0, 0, 9)", BAD, x -> x.item(-1, 0, 0, 9));
        refused("item(3, 0, 0, 9)", NULL, x -> x.item(3, 0, 0, 9));
        refused("item(0, 1, 0, 9)", CAST, x -> x.item(0, 1, 0, 9));
        refused("item(0, 0, 6, 9)", INDEX, x -> x.item(0, 0, 6, 9));
        refused("item(0, 0, -1, 9)", INDEX, x -> x.item(0, 0, -1, 9));
        refused("copy(4, 0, 0, 0, 1)", BAD, x -> x.copy(4, 0, 0, 0, 1));
        refused("copy(0, 0, 3, 0, 1)", NULL, x -> x.copy(0, 0, 3, 0, 1));
        refused("copy(3, 0, 0, 0, 1)", NULL, x -> x.copy(3, 0, 0, 0, 1));
        refused("copy(0, 2, 1, 0, 2)", CAST, x -> x.copy(0, 2, 1, 0, 2));
        refused("copy(0, 2, 0, 0, 5)", INDEX, x -> x.copy(0, 2, 0, 0, 5));
        refused("copy(0, 0, 0, 2, 5)", INDEX, x -> x.copy(0, 0, 0, 2, 5));
        refused("copy(0, 0, 0, 2, -1)", INDEX, x -> x.copy(0, 0, 0, 2, -1));
        refused("copy(0, 2, 0, 0, MAX)", INDEX, x -> x.copy(0, 2, 0, 0, MAX));
    }

    private static void refusedOfLetters() {
        refused("letters(4, 2, 2, 4, 1)", BAD, x -> x.letters(4, 2, 2, 4, 1));
        refused("letters(0, 2, 2, 4, 81)", BAD, x -> x.letters(0, 2, 2, 4, 81));
        refused("letters(0, 2, 2, 4, -1)", BAD, x -> x.letters(0, 2, 2, 4, -1));
        refused("letters(3, 3, 2, 0, 1)", NULL, x -> x.letters(3, 3, 2, 0, 1));
        refused("letters(3, 2, 1, 0, 1)", CAST, x -> x.letters(3, 2, 1, 0, 1));
        refused("letters(3, 2, 2, 0, 5)", INDEX, x -> x.letters(3, 2, 2, 0, 5));
        refused("letters(3, 2, 2, -1, 1)", INDEX, x -> x.letters(3, 2, 2, -1, 1));
        refused("letters(3, 2, 2, 0, 4), the last has a lesser tick", NOT, x -> x.letters(3, 2, 2, 0, 4));
        refused("letters(0, 2, 2, 0, 1), a lesser tick", NOT, x -> x.letters(0, 2, 2, 0, 1));
        refused("letters(1, 2, 2, 0, 1), a lesser tick, full", NOT, x -> x.letters(1, 2, 2, 0, 1));
        refused("clear(4)", BAD, x -> x.clear(4));
        refused("clear(-1)", BAD, x -> x.clear(-1));
        refused("letter(0, 8, 0)", BAD, x -> x.letter(0, 8, 0));
        refused("letter(0, 0, 2)", BAD, x -> x.letter(0, 0, 2));
        refused("letter(4, -1, 0)", BAD, x -> x.letter(4, -1, 0));
    }

    private static void refusedOfRuns() {
        refused("run(4, 0)", BAD, x -> x.run(4, 0));
        refused("run(-1, 0)", BAD, x -> x.run(-1, 0));
        refused("run(1, 4)", BAD, x -> x.run(1, 4));
        refused("run(1, -1)", BAD, x -> x.run(1, -1));
        refused("fate(8, 0)", BAD, x -> x.fate(8, 0));
        refused("fate(0, 3)", BAD, x -> x.fate(0, 3));
        refused("sum(4, 0)", BAD, x -> x.sum(4, 0));
        refused("sum(0, 5)", BAD, x -> x.sum(0, 5));
        refused("length(0, 400)", BAD, x -> x.length(0, 400));
        refused("length(4, 0)", BAD, x -> x.length(4, 0));
        refused("best(4)", BAD, x -> x.best(4));
        refused("shortBy(1, 3)", BAD, x -> x.shortBy(1, 3));
        refused("shortBy(4, 0)", BAD, x -> x.shortBy(4, 0));
        refused("pass(4, true)", BAD, x -> x.pass(4, true));
        refused("pass(-1, true)", BAD, x -> x.pass(-1, true));
        refused("marks(), ROW 1 has no a", NOT, x -> x.marks());
    }

    private static void eachChangesNothing() {
        String untouched = allOf(busyStore());
        for (int i = 0; i < calls.size(); i++) {
            LetterStore x = busyStore();
            Edges.due(names.get(i), calls.get(i).applyAsInt(x), answers.get(i));
            Edges.due("all behind " + names.get(i), allOf(x), untouched);
        }
        LetterStore y = busyStore();
        Edges.lay(y, 1, 5, 0);
        LetterStore z = busyStore();
        z.sheet(3, 2, 2);
        z.item(3, 2, 0, 5);
        Edges.due("letters of a full row", allOf(y), allOf(z));
    }

    private static void allTogetherChangeNothing() {
        LetterStore x = busyStore();
        for (int i = 0; i < calls.size(); i++) {
            Edges.due(names.get(i), calls.get(i).applyAsInt(x), answers.get(i));
        }
        Edges.due("all behind all of them", allOf(x), allOf(busyStore()));
    }

    private static void tellingChangesNothing() {
        Edges.sentence("Nothing is promised beyond the answers and state changes described above");
        LetterStore x = busyStore();
        Edges.due("none is copied", x.copy(0, 6, 0, 0, 0), 0);
        Edges.due("none is laid", x.letters(0, 0, 0, 0, 0), 8);
        Edges.due("an empty row is cleared", x.clear(3), 0);
        Edges.due("a row is told to PASS again", x.pass(2, true), 2);
        Edges.due("a row is not told to PASS again", x.pass(0, false), 2);
        Edges.due("the like room", x.room(9), 9);
        Edges.due("the like a", x.share(20), 20);
        Edges.due("the like PART", x.part(1, 4), 4);
        Edges.due("the like item", x.item(0, 0, 2, 256 + 1), 1);
        for (int row = 0; row < 4; row++) {
            x.best(row);
            for (int rule = 0; rule < 3; rule++) {
                x.shortBy(row, rule);
            }
        }
        Edges.due("the like RUN", x.run(0, 2), busyStore().sum(-1, 0));
        Edges.due("all behind these", allOf(x), allOf(busyStore()));
    }

    private static void lastCall() {
        Edges.sentence("An object is used for at most 512 calls after it has been made");
        LetterStore x = new LetterStore();
        for (int call = 1; call < MOST_CALLS; call++) {
            Edges.due("sheet", x.sheet(call % 4, call % 3, 160), 160);
        }
        Edges.due("call 512", x.item(511 % 4, 511 % 3, 159, 1), 1);
        LetterStore y = Edges.storeWith(12, 2);
        y.pace(1, 5);
        y.hold(1, 4, 3, 0);
        Edges.layMany(y, 0, 80, 39, 1);
        // 18 calls were made up to here.
        for (int call = 19; call < MOST_CALLS; call++) {
            Edges.due("run(0, 3)", y.run(0, 3), 76);
        }
        Edges.due("call 512", y.fate(79, 0), 3);
    }
}
