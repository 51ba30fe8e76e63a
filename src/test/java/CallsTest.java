import java.lang.reflect.InvocationTargetException;
import java.lang.reflect.Method;
import java.util.Arrays;
import java.util.HashMap;
import java.util.Map;
import java.util.Random;
import java.util.TreeSet;

/** Long runs of random calls, good and wrong ones mixed: each of 512 answers is that of the model. */
public final class CallsTest {
    private static final int STORES = 1200;
    private static final int MOST_CALLS = 512;
    private static final int MOST_TOLD = 20;
    private static final int[] WILD = {-1, -2, 4, 5, 6, 13, 39, 40, 41, 80, 81, 127, 128, 160, 161, 255, 256, 399, 400,
        32767, 32768, 65536, 1 << 30, Edges.MAX - 1, Edges.MAX, Edges.MIN, Edges.MIN + 1};

    /** Each call with the least and the most of each of its numbers, and the answers below 0 that its promise names. */
    private static final String[] CALLS = {
        "room 1..12 : BAD",
        "line 0..2 0..12 : BAD NOT FULL",
        "mark 0..3 0..12 : BAD",
        "pace 0..3 1..5 : BAD",
        "part 0..3 0..12 : BAD CAST NOT",
        "hold 0..3 1..12 0..11 0..5 : BAD CAST",
        "told 0..3 0..7 : BAD",
        "share 1..160 : BAD",
        "sheet 0..3 0..2 0..160 : BAD SIZE",
        "drop 0..3 : BAD NULL",
        "item 0..3 0..2 0..159 -3..39 : BAD NULL CAST INDEX",
        "copy 0..3 0..159 0..3 0..159 0..160 : BAD NULL CAST INDEX",
        "letters 0..3 0..3 0..2 0..159 0..80 : BAD NULL CAST INDEX NOT FULL",
        "clear 0..3 : BAD",
        "letter 0..3 -1..79 0..1 : BAD",
        "run 0..3 0..3 : BAD",
        "fate 0..79 0..2 : BAD NOT",
        "sum -1..3 0..4 : BAD",
        "length 0..3 0..399 : BAD",
        "ticks : BAD",
        "best 0..3 : BAD",
        "shortBy 0..3 0..2 : BAD",
        "pass 0..3 0..1 : BAD",
        "marks : NOT",
        "witness : BAD",
    };
    private static final Map<String, Method> OF_CLASS = methodsOf(LetterStore.class);
    private static final Map<String, Method> OF_MODEL = methodsOf(StoreModel.class);
    private static final TreeSet<String> refusals = new TreeSet<>();
    private static int wrong = 0;

    private final LetterStore store = new LetterStore();
    private final StoreModel model = new StoreModel();
    private final Random random;
    private final int seed;
    private int calls;

    private CallsTest(int seed) {
        this.seed = seed;
        random = Edges.randomOf(seed);
    }

    public static void main(String[] args) throws IllegalAccessException {
        for (int seed = 0; seed < STORES && wrong < MOST_TOLD; seed++) {
            new CallsTest(seed).callAll();
        }
        if (wrong == 0) {
            refusalsAreThoseThatAreNamed();
        }
        if (wrong != 0) {
            System.out.println(wrong + " answers are not as due");
            System.exit(1);
        }
    }

    private static Map<String, Method> methodsOf(Class<?> of) {
        Map<String, Method> methods = new HashMap<>();
        for (Method method : of.getDeclaredMethods()) {
            methods.put(method.getName(), method);
        }
        return methods;
    }

    private void callAll() throws IllegalAccessException {
        while (calls < MOST_CALLS) {
            if (random.nextInt(30) == 0) {
                layShortRow();
            } else if (random.nextInt(200) == 0) {
                layFullRow();
            } else {
                callAny();
            }
        }
    }

    private void callAny() throws IllegalAccessException {
        String[] words = CALLS[random.nextInt(CALLS.length)].split(" : ")[0].split(" ");
        int[] numbers = new int[words.length - 1];
        for (int i = 0; i < numbers.length; i++) {
            String[] range = words[i + 1].split("\\.\\.");
            numbers[i] = numberWithin(Integer.parseInt(range[0]), Integer.parseInt(range[1]));
        }
        call(words[0], numbers);
    }

    /** Mostly a good number, often a small one, at times the one beside the range or a wild one. */
    private int numberWithin(int least, int most) {
        switch (random.nextInt(24)) {
            case 0:
                return WILD[random.nextInt(WILD.length)];
            case 1:
                return random.nextBoolean() ? least - 1 : most + 1;
            case 2:
                return random.nextBoolean() ? least : most;
            default:
                int span = random.nextInt(3) == 0 ? most - least + 1 : Math.min(6, most - least + 1);
                return least + random.nextInt(span);
        }
    }

    private void layShortRow() throws IllegalAccessException {
        int n = 1 + random.nextInt(14);
        int row = random.nextInt(4);
        int lane = random.nextInt(3);
        int had = model.letter(row, -1, 0);
        int tick = had == 0 ? 0 : model.letter(row, had - 1, 0);
        call("sheet", 3, lane, 2 * n);
        for (int k = 0; k < n; k++) {
            tick += random.nextInt(3) == 0 ? 1 : 0;
            call("item", 3, lane, 2 * k, tick);
            call("item", 3, lane, 2 * k + 1, random.nextInt(random.nextInt(6) == 0 ? 4 : 2));
        }
        call("letters", row, 3, lane, 0, n);
        call("run", row, random.nextInt(4));
    }

    /** By copies, so that a row comes to its 80 letters in few calls. */
    private void layFullRow() throws IllegalAccessException {
        int row = random.nextInt(4);
        int lane = random.nextInt(3);
        call("clear", row);
        call("sheet", 2, lane, 160);
        call("item", 2, lane, 0, random.nextInt(3));
        call("item", 2, lane, 1, random.nextInt(3));
        for (int done = 2; done < 160; done *= 2) {
            call("copy", 2, 0, 2, done, Math.min(done, 160 - done));
        }
        call("letters", row, 2, lane, 0, 75 + random.nextInt(6));
        call("letters", row, 2, lane, 0, random.nextInt(10));
        call("run", row, random.nextInt(4));
    }

    private void call(String name, int... numbers) throws IllegalAccessException {
        if (calls == MOST_CALLS || wrong >= MOST_TOLD) {
            calls = MOST_CALLS;
            return;
        }
        calls++;
        int want = answerOf(OF_MODEL.get(name), model, numbers);
        int got = answerOf(OF_CLASS.get(name), store, numbers);
        if (want < 0) {
            refusals.add(name + " " + want);
        }
        if (got != want) {
            wrong++;
            System.out.println("store " + seed + ", call " + calls + ": " + name + Arrays.toString(numbers)
                + " answered " + got + ", due is " + want);
        }
    }

    private static int answerOf(Method method, Object of, int[] numbers) throws IllegalAccessException {
        Object[] given = new Object[numbers.length];
        for (int i = 0; i < given.length; i++) {
            boolean isTruth = method.getParameterTypes()[i] == boolean.class;
            given[i] = isTruth ? (Object) (numbers[i] > 0) : (Object) numbers[i];
        }
        try {
            return (Integer) method.invoke(of, given);
        } catch (InvocationTargetException thrown) {
            throw new IllegalStateException(method + " threw at " + Arrays.toString(numbers), thrown.getCause());
        }
    }

    /** The random calls reach each answer below 0 that a promise names, and no other. */
    private static void refusalsAreThoseThatAreNamed() {
        TreeSet<String> named = new TreeSet<>();
        for (String call : CALLS) {
            for (String answer : call.split(" : ")[1].split(" ")) {
                named.add(call.split(" ")[0] + " " + numberOf(answer));
            }
        }
        if (!named.equals(refusals)) {
            wrong++;
            System.out.println("answers below 0 were " + refusals + ", named are " + named);
        }
    }

    private static int numberOf(String answer) {
        switch (answer) {
            case "BAD": return -1;
            case "NOT": return -2;
            case "FULL": return -3;
            case "NULL": return -11;
            case "CAST": return -12;
            case "INDEX": return -13;
            default: return -14;
        }
    }
}
