import java.util.Random;

/** What tests share: the sentence of the document that is tried now, and how many answers were wrong. */
final class Edges {
    static final int BAD = -1, NOT = -2, FULL = -3, NULL = -11, CAST = -12, INDEX = -13, SIZE = -14;
    static final int MIN = Integer.MIN_VALUE, MAX = Integer.MAX_VALUE;

    private static String sentence = "";
    private static int wrong = 0;

    private Edges() {
    }

    /** Names the document's own words; what is wrong from here on is told with them. */
    static void sentence(String words) {
        sentence = words;
    }

    static void due(String call, int got, int want) {
        if (got != want) {
            wrong++;
            System.out.println("\"" + sentence + "\": " + call + " answered " + got + ", due is " + want);
        }
    }

    static void due(String call, String got, String want) {
        if (!got.equals(want)) {
            wrong++;
            System.out.println("\"" + sentence + "\": " + call + "\n  was " + got + "\n  due " + want);
        }
    }

    static void end() {
        if (wrong != 0) {
            System.out.println(wrong + " answers are not as due");
            System.exit(1);
        }
    }

    /** Spreads the seeds, as the first numbers of seeds side by side are nearly the same. */
    static Random randomOf(int seed) {
        return new Random(seed * 0x9E3779B97F4A7C15L);
    }

    /** Puts letters (tick, line, tick, line, ..) behind a row, by sheet 3. */
    static int lay(LetterStore x, int row, int... items) {
        x.sheet(3, 2, items.length);
        for (int i = 0; i < items.length; i++) {
            x.item(3, 2, i, items[i]);
        }
        return x.letters(row, 3, 2, 0, items.length / 2);
    }

    /** Puts n letters of one tick and line behind a row, by sheet 3 and in few calls. */
    static int layMany(LetterStore x, int row, int n, int tick, int line) {
        x.sheet(3, 0, 2 * n);
        x.item(3, 0, 0, tick);
        x.item(3, 0, 1, line);
        for (int done = 1; done < n; done *= 2) {
            x.copy(3, 0, 3, 2 * done, 2 * Math.min(done, n - done));
        }
        return x.letters(row, 3, 0, 0, n);
    }

    /** A store with one line for each kind behind line 0, all with mark 12. */
    static LetterStore storeWith(int b, int... kinds) {
        LetterStore x = new LetterStore();
        x.room(12);
        x.mark(0, 12);
        for (int kind : kinds) {
            int line = x.line(kind, 12);
            if (kind > 0) {
                x.part(line, 0);
            }
        }
        x.room(b);
        return x;
    }

    static void fates(LetterStore x, int what, int... want) {
        for (int k = 0; k < want.length; k++) {
            due("fate(" + k + ", " + what + ")", x.fate(k, what), want[k]);
        }
    }

    static void lengths(LetterStore x, int line, int... want) {
        for (int t = 0; t < want.length; t++) {
            due("length(" + line + ", " + t + ")", x.length(line, t), want[t]);
        }
    }
}
