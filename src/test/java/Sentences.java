import java.io.IOException;
import java.nio.file.Files;
import java.nio.file.Path;
import java.util.ArrayList;
import java.util.List;

/**
 * What the tests of single sentences share. Each of them names its promise and its sentence first, in the document's
 * own words, and a sentence that the document doesn't have is a failure too.
 */
abstract class Sentences {
    static final int OK = 0, STRUCTURE = 1, UNSET = 2, SHORT = 3, RANGE = 4, MISMATCH = 5, PADDING = 6,
        LEFT = 7, MANY = 8, NOT_READY = 9, REFUSED = -1;
    static final int INT = 0, VAR = 1, BITS = 2, BYTE = 3, REPEAT = 4, WHEN = 5, BLOCK = 6, SUM = 7,
        ALIGN = 8, BOUND = 9, SET = 10, ADD = 11, ELSE = 12, END = 13;
    static final int LOW_FIRST = 8, SIGNED = 16;
    static final int LEAST = -2147483648, MOST = 2147483647;
    static final int NONE = -1;

    private static final Due due = new Due();
    private static final String document = readDocument();
    private static String sentence = "";
    private static int asked = 0;
    private static int askedBefore = 0;

    private static String readDocument() {
        try {
            return Files.readString(Path.of("../shared/DOC.md")).replaceAll("\\s+", " ");
        } catch (IOException missing) {
            System.out.println("../shared/DOC.md can't be read, so the sentences are not looked up in it");
            return "";
        }
    }

    /** Begins the test of a sentence; all answers up to the next one belong to it. */
    static void sentence(String promises, String words) {
        leaveSentence();
        sentence = promises + ": \"" + words + "\"";
        String flat = words.replaceAll("\\s+", " ");
        due.holds("the document says " + sentence, document.isEmpty() || document.contains(flat));
    }

    private static void leaveSentence() {
        due.holds("an answer is asked for by " + sentence, sentence.isEmpty() || asked > askedBefore);
        askedBefore = asked;
    }

    static void end() {
        leaveSentence();
        due.end();
    }

    static void is(int got, int want) {
        asked++;
        due.is(got == want ? "" : sentence + "\n    " + Bench.latestRun() + "\n    the last", got, want);
    }

    // Items are given as kind, a, b, one after the other.

    static int[] join(int[]... parts) {
        List<Integer> all = new ArrayList<>();
        for (int[] part : parts) {
            for (int number : part) {
                all.add(number);
            }
        }
        return all.stream().mapToInt(Integer::intValue).toArray();
    }

    static int[] row(int... numbers) {
        return numbers;
    }

    static int[] times(int count, int... numbers) {
        int[] all = new int[count * numbers.length];
        for (int i = 0; i < all.length; i++) {
            all[i] = numbers[i % numbers.length];
        }
        return all;
    }

    static Bench items(int... items) {
        Bench x = new Bench();
        putAll(x, items);
        return x;
    }

    static void putAll(Bench x, int... items) {
        for (int i = 0; i < items.length; i += 3) {
            x.put(items[i], items[i + 1], items[i + 2]);
        }
    }

    static Bench format(int... items) {
        Bench x = items(items);
        is(x.compile(), OK);
        return x;
    }

    static void feedAll(Bench x, int... bytes) {
        for (int i = 0; i < bytes.length; i += 4) {
            int w = 0;
            int n = Math.min(4, bytes.length - i);
            for (int j = n - 1; j >= 0; j--) {
                w = w << 8 | bytes[i + j];
            }
            x.feed(w, n);
        }
    }

    static void compiled(Bench x, int answer, int place) {
        is(x.compile(), answer);
        is(x.place(), place);
    }

    static void parsed(Bench x, int answer, int place, int at, int... bytes) {
        feedAll(x, bytes);
        is(x.parse(), answer);
        is(x.place(), place);
        is(x.at(), at);
    }

    static void list(Bench x, int... values) {
        x.drop();
        for (int value : values) {
            x.value(value);
        }
    }

    static void written(Bench x, int answer, int place, int at, int... values) {
        list(x, values);
        is(x.write(), answer);
        is(x.place(), place);
        is(x.at(), at);
    }

    static void hasValues(Bench x, int... values) {
        is(x.values(), values.length);
        for (int k = 0; k < values.length; k++) {
            is(x.valueAt(k), values[k]);
        }
        is(x.valueAt(values.length), 0);
    }

    static void hasBytes(Bench x, int... bytes) {
        is(x.bytes(), bytes.length);
        for (int k = 0; k < bytes.length; k++) {
            is(x.byteAt(k), bytes[k]);
        }
        is(x.byteAt(bytes.length), -1);
    }

    /** The bytes are taken apart into the values, and the values are put together to the bytes. */
    static void bothWays(Bench x, int[] bytes, int... values) {
        parsed(x, OK, NONE, bytes.length, bytes);
        hasValues(x, values);
        is(x.write(), OK);
        is(x.at(), bytes.length);
        hasBytes(x, bytes);
    }

    /** Both a parse of the bytes and a write of the values end with the same answer, at the same item and byte. */
    static void bothEnd(Bench x, int answer, int place, int at, int[] bytes, int... values) {
        parsed(x, answer, place, at, bytes);
        written(x, answer, place, at, values);
    }

    /** An object with something in all that it has, and with a format that its items have left behind. */
    static Bench furnished() {
        Bench x = format(INT, 1, 0, BYTE, 7, 0, INT, 2, 1);
        list(x, 5, 0x0102);
        x.write();
        x.put(BYTE, 9, 0);
        x.feed(0x0905, 2);
        x.parse();
        x.value(77);
        x.value(-88);
        x.feed(0x00010705, 4);
        return x;
    }

    /** Two objects answer all the same, also to calls that show what is hidden: the input, the format, the items. */
    static void same(Bench x, Bench y) {
        sameSeen(x, y);
        sameAnswer(y.feed(1, 1), x.feed(1, 1));
        sameAnswer(y.write(), x.write());
        sameSeen(x, y);
        sameAnswer(y.parse(), x.parse());
        sameSeen(x, y);
        sameAnswer(y.compile(), x.compile());
        sameAnswer(y.place(), x.place());
        sameAnswer(y.write(), x.write());
        sameBytes(x, y);
        sameAnswer(y.wipe(), x.wipe());
    }

    private static void sameSeen(Bench x, Bench y) {
        sameAnswer(y.place(), x.place());
        sameAnswer(y.at(), x.at());
        int values = y.values();
        sameAnswer(values, x.values());
        for (int k = 0; k < values; k++) {
            sameAnswer(y.valueAt(k), x.valueAt(k));
        }
        sameBytes(x, y);
        for (int v = 0; v < 8; v++) {
            sameAnswer(y.variable(v), x.variable(v));
        }
    }

    private static void sameBytes(Bench x, Bench y) {
        int bytes = y.bytes();
        sameAnswer(bytes, x.bytes());
        for (int k = 0; k < bytes; k++) {
            sameAnswer(y.byteAt(k), x.byteAt(k));
        }
    }

    private static void sameAnswer(int want, int got) {
        is(got, want);
    }

    // Formats that come just up to a limit.

    /** 399 steps in 28 items, which leave variable 1 at 32, and 2 and 3 at 0, and take no bytes. */
    static int[] steps399() {
        return join(row(SET, 32, 1, REPEAT, 0, 1), times(12, SET, 0, 2), row(END, 0, 0), times(13, SET, 0, 3));
    }

    /** A number of bytes, 0 .. 64, each of them 1, in 8 items that set the variables 0 and 1. */
    static int[] ones(int count) {
        int first = Math.min(count, 32);
        return row(SET, first, 0, SET, count - first, 1, REPEAT, 0, 0, BYTE, 1, 0, END, 0, 0,
            REPEAT, 0, 1, BYTE, 1, 0, END, 0, 0);
    }
}
