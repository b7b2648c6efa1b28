import java.util.Arrays;

/** The sentences of the calls that neither check nor run a format: promises 1 to 3, 5, 7, 8 and 10 to 16. */
public final class CallSentencesTest extends Sentences {
    private static final int[] FAR = {LEAST, LEAST + 1, -256, -2, MOST - 1, MOST};

    public static void main(String[] args) {
        the512thCall();
        newHasNoItems();
        newHasNoFormat();
        newHasNoInput();
        newHasNoValues();
        newHasNoBytes();
        putCounts();
        putWrongKind();
        putIntLength();
        putIntVariable();
        putVar();
        putBits();
        putByte();
        putAlign();
        putVariables();
        putAnyA();
        putAnyB();
        putBothWrong();
        putFull();
        wipeCounts();
        wipeFull();
        wipeKeepsFormat();
        feedLowestFirst();
        feedFull();
        feedRefused();
        valueCounts();
        valueFull();
        valueFullByParse();
        dropCounts();
        placeOfFirstAndLast();
        placeOfNumberOfItems();
        placeOfOk();
        placeOfNone();
        placeNotReady();
        atOfNone();
        atOfOk();
        atOfByteBegun();
        atOfVar();
        atOfLatest();
        valuesCounts();
        valueAtEdges();
        valueAtBehindShorterList();
        bytesCounts();
        bytesOfNone();
        bytesOfLatestWrite();
        byteAtEdges();
        byteAtRange();
        variableEdges();
        variableOfNone();
        variableAtTheEnd();
        end();
    }

    private static void the512thCall() {
        sentence("all promises", "An object is used for at most 512 calls after it has been made");
        Bench x = format(INT, 1, 0);
        x.value(7);
        while (x.calls() < 511) {
            is(x.write(), OK);
        }
        is(x.byteAt(0), 7);
        is(x.calls(), 512);
    }

    // Promise 1

    private static final String NEW = "No items, no format, no input, no values, no bytes.";

    private static void newHasNoItems() {
        sentence("promise 1, no items", NEW);
        is(new Bench().wipe(), 0);
        is(new Bench().put(BYTE, 1, 0), 1);
        Bench x = new Bench();
        compiled(x, OK, NONE);
        parsed(x, LEFT, 0, 0, 1);
    }

    private static void newHasNoFormat() {
        sentence("promise 1, no format", NEW);
        is(new Bench().parse(), NOT_READY);
        is(new Bench().write(), NOT_READY);
    }

    private static void newHasNoInput() {
        sentence("promise 1, no input", NEW);
        is(new Bench().feed(0, 1), 1);
        parsed(format(), OK, NONE, 0);
        parsed(format(BYTE, 0, 0), SHORT, 0, 0);
    }

    private static void newHasNoValues() {
        sentence("promise 1, no values", NEW);
        hasValues(new Bench());
        is(new Bench().drop(), 0);
        is(new Bench().value(0), 1);
        Bench x = format(INT, 1, 0);
        is(x.write(), SHORT);
    }

    private static void newHasNoBytes() {
        sentence("promise 1, no bytes", NEW);
        hasBytes(new Bench());
        for (int k = 0; k < 64; k++) {
            is(new Bench().byteAt(k), -1);
        }
    }

    // Promise 2

    private static void taken(int kind, int a, int b) {
        Bench x = furnished();
        is(x.put(kind, a, b), 5);
        is(x.wipe(), 5);
    }

    private static void refused(int kind, int a, int b) {
        Bench x = furnished();
        is(x.put(kind, a, b), REFUSED);
        same(x, furnished());
        x = new Bench();
        is(x.put(kind, a, b), REFUSED);
        is(x.wipe(), 0);
    }

    private static void putCounts() {
        sentence("promise 2", "Adds an item: how many there are.");
        Bench x = new Bench();
        for (int i = 1; i <= 40; i++) {
            is(x.put(BYTE, i, 0), i);
        }
        is(x.compile(), OK);
        is(x.write(), OK);
        is(x.bytes(), 40);
        for (int k = 0; k < 40; k++) {
            is(x.byteAt(k), k + 1);
        }
    }

    private static void putWrongKind() {
        sentence("promise 2", "REFUSED, nothing changes, if kind is not 0 .. 13");
        for (int kind = 0; kind <= 13; kind++) {
            taken(kind, 2, 0);
        }
        refused(-1, 2, 0);
        refused(14, 2, 0);
        refused(15, 2, 0);
        refused(256, 2, 0);
        for (int kind : FAR) {
            refused(kind, 2, 0);
        }
    }

    private static void edgesOfA(int kind, int least, int most) {
        taken(kind, least, 0);
        taken(kind, most, 0);
        refused(kind, least - 1, 0);
        refused(kind, most + 1, 0);
        for (int a : FAR) {
            refused(kind, a, 0);
        }
    }

    private static void edgesOfB(int kind, int a, int most) {
        for (int b = 0; b <= most; b++) {
            taken(kind, a, b);
        }
        refused(kind, a, -1);
        refused(kind, a, most + 1);
        for (int b : FAR) {
            refused(kind, a, b);
        }
    }

    private static void putIntLength() {
        sentence("promise 2", "0 INT a b     a number of a bytes (1 .. 4)");
        edgesOfA(INT, 1, 4);
    }

    private static void putIntVariable() {
        sentence("promise 2", "b = v, + 8 if its lowest byte comes first (else the highest), + 16 if it has a sign.");
        edgesOfB(INT, 1, 31);
        edgesOfB(INT, 4, 31);
    }

    private static void putVar() {
        sentence("promise 2", "1 VAR b = v");
        edgesOfB(VAR, 0, 7);
        edgesOfB(VAR, MOST, 7);
    }

    private static void putBits() {
        sentence("promise 2", "2 BITS a b    a number of a bits (1 .. 16) without sign, b = v");
        edgesOfA(BITS, 1, 16);
        edgesOfB(BITS, 1, 7);
        edgesOfB(BITS, 16, 7);
    }

    private static void putByte() {
        sentence("promise 2", "3 BYTE a      the byte a (0 .. 255)");
        edgesOfA(BYTE, 0, 255);
    }

    private static void putAlign() {
        sentence("promise 2", "to a multiple of a (2 .. 8)");
        edgesOfA(ALIGN, 2, 8);
    }

    private static void putVariables() {
        sentence("promise 2", "the VARIABLES 0 .. 7");
        int[] kinds = {REPEAT, WHEN, BLOCK, BOUND, SET, ADD};
        for (int kind : kinds) {
            edgesOfB(kind, 0, 7);
        }
    }

    private static void putAnyA() {
        sentence("promise 2", "(a is any int in 5, 7, 9, 10, 11, and not looked at in 1, 4, 6, 12, 13;");
        int[] kinds = {WHEN, SUM, BOUND, SET, ADD, VAR, REPEAT, BLOCK, ELSE, END};
        for (int kind : kinds) {
            taken(kind, -1, 0);
            taken(kind, 0, 0);
            taken(kind, 256, 7);
            for (int a : FAR) {
                taken(kind, a, 7);
            }
        }
    }

    private static void putAnyB() {
        sentence("promise 2", "b not in 3, 7, 8, 12, 13.)");
        int[] kinds = {BYTE, SUM, ALIGN, ELSE, END};
        for (int kind : kinds) {
            taken(kind, 2, -1);
            taken(kind, 2, 8);
            taken(kind, 2, 32);
            for (int b : FAR) {
                taken(kind, 2, b);
            }
        }
    }

    private static void putBothWrong() {
        sentence("promise 2", "a or b (where looked at) not as said, or there are 40.");
        refused(INT, 0, 32);
        refused(INT, 5, -1);
        refused(BITS, 0, 8);
        refused(BITS, 17, -1);
        refused(14, 0, 32);
        refused(BYTE, 256, LEAST);
        refused(ALIGN, 9, MOST);
    }

    private static Bench full() {
        Bench x = furnished();
        for (int i = 4; i < 40; i++) {
            x.put(BYTE, i, 0);
        }
        return x;
    }

    private static void putFull() {
        sentence("promise 2", "REFUSED, nothing changes, if kind is not 0 .. 13, a or b (where looked at) not as said, or there are 40.");
        for (int kind = 0; kind <= 13; kind++) {
            Bench x = full();
            is(x.put(kind, 2, 0), REFUSED);
            same(x, full());
        }
        Bench x = full();
        is(x.put(14, 2, 0), REFUSED);
        is(x.wipe(), 40);
        for (int i = 1; i <= 39; i++) {
            is(x.put(BYTE, 1, 0), i);
        }
        is(x.put(BYTE, 1, 0), 40);
        is(x.put(BYTE, 1, 0), REFUSED);
    }

    // Promise 3

    private static void wipeCounts() {
        sentence("promise 3", "Removes all items; answers how many there were.");
        for (int count = 0; count <= 40; count++) {
            Bench x = items(times(count, BYTE, 1, 0));
            is(x.wipe(), count);
            is(x.wipe(), 0);
            is(x.compile(), OK);
            parsed(x, LEFT, 0, 0, 1);
        }
    }

    private static void wipeFull() {
        sentence("promise 3", "Removes all items; answers how many there were.");
        Bench x = items(times(40, BYTE, 1, 0));
        is(x.put(BYTE, 1, 0), REFUSED);
        is(x.wipe(), 40);
        is(x.put(BYTE, 2, 0), 1);
        is(x.compile(), OK);
        parsed(x, OK, NONE, 1, 2);
    }

    private static void wipeKeepsFormat() {
        sentence("promise 3", "The format stays.");
        Bench x = furnished();
        Bench y = furnished();
        is(x.wipe(), 4);
        putAll(x, INT, 1, 0, BYTE, 7, 0, INT, 2, 1, BYTE, 9, 0);
        same(x, y);
        x = format(BYTE, 7, 0);
        x.wipe();
        parsed(x, OK, NONE, 1, 7);
        parsed(x, LEFT, 1, 1, 7, 7);
        x = items(BYTE, 7, 0);
        x.wipe();
        is(x.parse(), NOT_READY);
        is(x.write(), NOT_READY);
    }

    // Promise 5

    private static void feedLowestFirst() {
        sentence("promise 5", "Adds the n lowest bytes of w to the input, the lowest first");
        int[] words = {0x01020384, 0x84030201, LEAST, MOST, -1, 0};
        for (int w : words) {
            for (int n = 1; n <= 4; n++) {
                Bench x = format(times(n, INT, 1, 0));
                is(x.feed(w, n), n);
                parsed(x, OK, NONE, n);
                for (int i = 0; i < n; i++) {
                    is(x.valueAt(i), w >> 8 * i & 255);
                }
            }
        }
    }

    private static void feedFull() {
        sentence("promise 5", "as far as it has less than 64: its length.");
        for (int before = 59; before <= 64; before++) {
            for (int n = 1; n <= 4; n++) {
                Bench x = format(join(ones(before), times(4, INT, 1, 2)));
                feedAll(x, times(before, 1));
                int length = Math.min(64, before + n);
                is(x.feed(0x44434241, n), length);
                is(x.feed(5, 0), REFUSED);
                if (length == 64) {
                    is(x.feed(6, 4), 64);
                }
                int taken = length - before;
                parsed(x, taken == 4 ? OK : SHORT, taken == 4 ? NONE : 8 + taken, length);
                hasValues(x, Arrays.copyOf(row(0x41, 0x42, 0x43, 0x44), taken));
                is(x.feed(7, 1), 1);
            }
        }
    }

    private static Bench fed(int length) {
        Bench x = furnished();
        x.parse();
        feedAll(x, times(length, 5, 7, 1, 0));
        return x;
    }

    private static void feedRefused() {
        sentence("promise 5", "REFUSED, nothing changes, if n is not 1 .. 4.");
        int[] wrong = {0, 5, -1, 6, LEAST, MOST, LEAST + 1, 257, 260};
        for (int groups = 0; groups <= 16; groups += 8) {
            for (int n : wrong) {
                Bench x = fed(groups);
                is(x.feed(0x01010101, n), REFUSED);
                same(x, fed(groups));
            }
        }
    }

    // Promises 7 and 8

    private static void valueCounts() {
        sentence("promise 7", "Adds a value to the list: how many.");
        int[] numbers = {0, -1, LEAST, MOST, 1, 255, 256, -32769};
        Bench x = new Bench();
        for (int i = 0; i < numbers.length; i++) {
            is(x.value(numbers[i]), i + 1);
        }
        hasValues(x, numbers);
        x = format(INT, 1, 0, INT, 1, 0);
        parsed(x, SHORT, 1, 1, 9);
        is(x.value(8), 2);
        hasValues(x, 9, 8);
    }

    private static Bench fortyValues() {
        Bench x = furnished();
        x.drop();
        for (int i = 1; i <= 40; i++) {
            x.value(-i);
        }
        return x;
    }

    private static void valueFull() {
        sentence("promise 7", "REFUSED if there are 40.");
        Bench x = new Bench();
        for (int i = 1; i <= 40; i++) {
            is(x.value(i), i);
        }
        is(x.value(41), REFUSED);
        is(x.values(), 40);
        is(x.valueAt(39), 40);
        is(x.valueAt(40), 0);
        x = fortyValues();
        is(x.value(1), REFUSED);
        same(x, fortyValues());
        x = fortyValues();
        x.drop();
        is(x.value(1), 1);
    }

    private static void valueFullByParse() {
        sentence("promise 7, behind a parse", "REFUSED if there are 40.");
        Bench x = format(SET, 20, 0, REPEAT, 0, 0, BITS, 1, 1, BITS, 1, 2, END, 0, 0);
        parsed(x, OK, NONE, 5, 255, 255, 255, 255, 255);
        is(x.values(), 40);
        is(x.value(1), REFUSED);
        is(x.values(), 40);
        x = format(SET, 13, 0, REPEAT, 0, 0, BITS, 1, 1, BITS, 1, 2, BITS, 1, 3, END, 0, 0);
        parsed(x, OK, NONE, 5, 255, 255, 255, 255, 254);
        is(x.value(7), 40);
        is(x.value(7), REFUSED);
    }

    private static void dropCounts() {
        sentence("promise 8", "Empties the list of values: how many there were.");
        for (int count = 0; count <= 40; count++) {
            Bench x = new Bench();
            for (int i = 0; i < count; i++) {
                x.value(9);
            }
            is(x.drop(), count);
            hasValues(x);
            is(x.drop(), 0);
            is(x.value(3), 1);
            hasValues(x, 3);
        }
        Bench x = format(INT, 1, 0);
        parsed(x, OK, NONE, 1, 9);
        is(x.drop(), 1);
        is(x.write(), SHORT);
    }

    // Promise 10

    private static void placeOfFirstAndLast() {
        sentence("promise 10", "the item at which it ended");
        Bench x = format(times(40, BYTE, 1, 0));
        parsed(x, MISMATCH, 0, 0, times(40, 2));
        parsed(x, SHORT, 39, 39, times(39, 1));
        parsed(x, MISMATCH, 39, 39, join(times(39, 1), row(2)));
        compiled(items(END, 0, 0), STRUCTURE, 0);
        compiled(items(join(times(39, BYTE, 1, 0), row(ELSE, 0, 0))), STRUCTURE, 39);
        compiled(items(BOUND, 1, 0), UNSET, 0);
        compiled(items(join(times(39, BYTE, 1, 0), row(BOUND, 1, 0))), UNSET, 39);
        x = format(join(times(39, BYTE, 1, 0), row(INT, 1, 0)));
        written(x, SHORT, 39, 39);
        written(x, RANGE, 39, 39, 256);
        written(format(INT, 1, 0), RANGE, 0, 0, 256);
    }

    private static void placeOfNumberOfItems() {
        sentence("promise 10", "(or the number of items)");
        parsed(format(), LEFT, 0, 0, 1);
        written(format(), LEFT, 0, 0, 1);
        Bench x = format(times(40, BYTE, 1, 0));
        parsed(x, LEFT, 40, 40, times(41, 1));
        written(x, LEFT, 40, 40, 1);
        x.wipe();
        x.put(SET, 1, 0);
        x.put(REPEAT, 0, 0);
        compiled(x, STRUCTURE, 2);
        parsed(x, LEFT, 40, 40, times(41, 1));
        x = items(join(row(SET, 1, 0), times(38, BYTE, 1, 0), row(BLOCK, 0, 0)));
        compiled(x, STRUCTURE, 40);
    }

    private static void placeOfOk() {
        sentence("promise 10", "-1 if it was OK");
        Bench x = format(BYTE, 1, 0);
        is(x.place(), -1);
        parsed(x, SHORT, 0, 0);
        compiled(x, OK, -1);
        parsed(x, SHORT, 0, 0);
        parsed(x, OK, -1, 1, 1);
        parsed(x, SHORT, 0, 0);
        written(x, OK, -1, 1);
    }

    private static void placeOfNone() {
        sentence("promise 10", "or there was none");
        Bench x = items(END, 0, 0);
        is(x.place(), -1);
        x.feed(1, 1);
        x.value(1);
        x.wipe();
        x.drop();
        is(x.place(), -1);
        is(x.parse(), NOT_READY);
        is(x.place(), -1);
        is(x.write(), NOT_READY);
        is(x.place(), -1);
    }

    private static void placeNotReady() {
        sentence("promise 10", "Of the latest compile, parse or write that did not answer NOT_READY");
        Bench x = items(BYTE, 1, 0, END, 0, 0);
        compiled(x, STRUCTURE, 1);
        is(x.parse(), NOT_READY);
        is(x.place(), 1);
        is(x.write(), NOT_READY);
        is(x.place(), 1);
        x = format(INT, 1, 0);
        parsed(x, LEFT, 1, 1, 1, 1);
        is(x.write(), OK);
        is(x.place(), -1);
        parsed(x, SHORT, 0, 0);
        x.put(END, 0, 0);
        compiled(x, STRUCTURE, 1);
        parsed(x, SHORT, 0, 0);
        x.put(14, 0, 0);
        x.feed(1, 5);
        x.wipe();
        x.value(1);
        x.drop();
        is(x.place(), 0);
    }

    // Promise 11

    private static void atOfNone() {
        sentence("promise 11", "0 if there was none.");
        Bench x = items(BYTE, 1, 0);
        is(x.at(), 0);
        x.feed(0x01010101, 4);
        is(x.parse(), NOT_READY);
        is(x.at(), 0);
        x.value(1);
        is(x.write(), NOT_READY);
        is(x.at(), 0);
        x.compile();
        is(x.at(), 0);
    }

    private static void atOfOk() {
        sentence("promise 11", "with OK in all.");
        for (int count = 0; count <= 64; count++) {
            Bench x = format(ones(count));
            parsed(x, OK, NONE, count, times(count, 1));
            written(x, OK, NONE, count);
        }
        bothWays(format(BITS, 1, 0), row(0x80), 1);
        bothWays(format(BITS, 8, 0), row(0x80), 0x80);
        bothWays(format(BITS, 9, 0), row(0x80, 0x80), 0x101);
    }

    private static void atOfByteBegun() {
        sentence("promise 11", "how many bytes were taken or made, a byte begun by BITS among them, when it came to that item");
        for (int bits = 1; bits <= 16; bits++) {
            int begun = bits > 8 ? 2 : 1;
            Bench x = format(BYTE, 1, 0, BITS, bits, 0, SET, -1, 1, BOUND, 1, 1);
            bothEnd(x, RANGE, 3, 1 + begun, row(1, 0, 0), 0);
            x = format(BYTE, 1, 0, BITS, bits, 0, INT, 4, 1);
            bothEnd(x, SHORT, 2, 1 + begun, join(row(1), times(begun + 3, 0)), 0);
        }
    }

    private static void atOfVar() {
        sentence("promise 11", "(to a VAR: its first byte)");
        for (int more = 0; more <= 4; more++) {
            Bench x = format(BYTE, 1, 0, BYTE, 1, 0, VAR, 0, 0);
            parsed(x, SHORT, 2, 2, join(row(1, 1), times(more, 128)));
        }
        for (int more = 1; more <= 4; more++) {
            Bench x = format(BYTE, 1, 0, BYTE, 1, 0, VAR, 0, 0);
            parsed(x, PADDING, 2, 2, join(row(1, 1), times(more, 128), row(0)));
        }
        Bench x = format(join(ones(61), row(VAR, 0, 2)));
        written(x, SHORT, 8, 61, -1);
        is(x.bytes(), 61);
    }

    private static void atOfLatest() {
        sentence("promise 11", "Of the latest parse or write likewise");
        Bench x = format(INT, 2, 0);
        parsed(x, OK, NONE, 2, 0, 1);
        x.put(END, 0, 0);
        compiled(x, STRUCTURE, 1);
        is(x.at(), 2);
        x.wipe();
        compiled(x, OK, NONE);
        is(x.at(), 2);
        x.feed(0, 1);
        x.drop();
        is(x.at(), 2);
        is(x.parse(), LEFT);
        is(x.at(), 0);
        x = format(INT, 2, 0);
        parsed(x, OK, NONE, 2, 0, 1);
        written(x, RANGE, 0, 0, 65536);
        parsed(x, LEFT, 1, 2, 0, 0, 0);
    }

    // Promises 12 and 13

    private static void valuesCounts() {
        sentence("promise 12", "How many values the list has.");
        Bench x = new Bench();
        is(x.values(), 0);
        for (int i = 1; i <= 40; i++) {
            x.value(0);
            is(x.values(), i);
        }
        x.value(0);
        is(x.values(), 40);
        x.drop();
        is(x.values(), 0);
        x = format(INT, 1, 0, INT, 1, 0);
        for (int count = 0; count <= 2; count++) {
            feedAll(x, times(count, 1));
            x.parse();
            is(x.values(), count);
        }
    }

    private static void valueAtEdges() {
        sentence("promise 13", "Value k (0 the first); 0 if there is none.");
        for (int count = 0; count <= 40; count += 8) {
            Bench x = new Bench();
            for (int i = 0; i < count; i++) {
                x.value(100 + i);
            }
            for (int k = -2; k <= 42; k++) {
                is(x.valueAt(k), k >= 0 && k < count ? 100 + k : 0);
            }
            for (int k : FAR) {
                is(x.valueAt(k), 0);
            }
        }
    }

    private static void valueAtBehindShorterList() {
        sentence("promise 13, behind a longer list", "0 if there is none.");
        Bench x = format(INT, 1, 0, INT, 1, 0, INT, 1, 0);
        parsed(x, OK, NONE, 3, 7, 8, 9);
        parsed(x, SHORT, 1, 1, 5);
        is(x.valueAt(0), 5);
        is(x.valueAt(1), 0);
        is(x.valueAt(2), 0);
        x.drop();
        is(x.valueAt(0), 0);
    }

    // Promises 14 and 15

    private static void bytesCounts() {
        sentence("promise 14", "How many bytes the latest write made");
        for (int count = 0; count <= 64; count++) {
            Bench x = format(ones(count));
            is(x.write(), OK);
            is(x.bytes(), count);
        }
        Bench x = format(join(ones(64), row(BYTE, 1, 0)));
        is(x.write(), SHORT);
        is(x.bytes(), 64);
    }

    private static void bytesOfNone() {
        sentence("promise 14", "0 if there was none.");
        Bench x = items(INT, 1, 0);
        is(x.bytes(), 0);
        is(x.write(), NOT_READY);
        is(x.bytes(), 0);
        x.compile();
        parsed(x, OK, NONE, 1, 9);
        is(x.bytes(), 0);
        is(x.byteAt(0), -1);
    }

    private static void bytesOfLatestWrite() {
        sentence("promise 14, the latest", "How many bytes the latest write made");
        Bench x = format(INT, 1, 0, INT, 1, 0);
        written(x, OK, NONE, 2, 8, 9);
        parsed(x, SHORT, 1, 1, 3);
        hasBytes(x, 8, 9);
        x.wipe();
        x.compile();
        hasBytes(x, 8, 9);
        is(x.write(), LEFT);
        hasBytes(x);
    }

    private static void byteAtEdges() {
        sentence("promise 15", "-1 if there is none.");
        for (int count = 0; count <= 64; count += 16) {
            Bench x = format(ones(count));
            is(x.write(), OK);
            for (int k = -2; k <= 66; k++) {
                is(x.byteAt(k), k >= 0 && k < count ? 1 : -1);
            }
            for (int k : FAR) {
                is(x.byteAt(k), -1);
            }
        }
        Bench x = format(INT, 1, 0, INT, 1, 0);
        written(x, OK, NONE, 2, 8, 9);
        written(x, SHORT, 1, 1, 7);
        is(x.byteAt(0), 7);
        is(x.byteAt(1), -1);
    }

    private static void byteAtRange() {
        sentence("promise 15", "Byte k of them (0 the first), 0 .. 255");
        Bench x = format(INT, 4, 0, INT, 4, LOW_FIRST, BYTE, 255, 0, BITS, 8, 0, SUM, 255, 0);
        written(x, OK, NONE, 11, 0x00ff807f, 0x00ff807f, 255);
        hasBytes(x, 0, 255, 128, 127, 127, 128, 255, 0, 255, 255, (2 * (255 + 128 + 127) + 255 * 3) % 256);
    }

    // Promise 16

    private static Bench eightSet() {
        return format(SET, 100, 0, SET, 101, 1, SET, 102, 2, SET, 103, 3, SET, 104, 4, SET, 105, 5, SET, 106, 6,
            SET, 107, 7);
    }

    private static void variableEdges() {
        sentence("promise 16", "0 if there is no such variable");
        Bench x = eightSet();
        is(x.parse(), OK);
        for (int v = -2; v <= 10; v++) {
            is(x.variable(v), v >= 0 && v <= 7 ? 100 + v : 0);
        }
        for (int v : FAR) {
            is(x.variable(v), 0);
        }
        is(x.variable(256), 0);
        x = eightSet();
        is(x.write(), OK);
        for (int v = -1; v <= 8; v++) {
            is(x.variable(v), v >= 0 && v <= 7 ? 100 + v : 0);
        }
    }

    private static void variableOfNone() {
        sentence("promise 16", "or there was none.");
        Bench x = items(SET, 5, 0);
        is(x.parse(), NOT_READY);
        is(x.write(), NOT_READY);
        x.compile();
        for (int v = -1; v <= 8; v++) {
            is(x.variable(v), 0);
        }
    }

    private static void variableAtTheEnd() {
        sentence("promise 16", "What variable v was at the end of the latest parse or write");
        Bench x = format(SET, 5, 0, INT, 1, 0, ADD, 3, 0, BYTE, 1, 0, SET, 6, 0);
        parsed(x, SHORT, 1, 0);
        is(x.variable(0), 5);
        parsed(x, SHORT, 3, 1, 9);
        is(x.variable(0), 12);
        parsed(x, OK, NONE, 2, 9, 1);
        is(x.variable(0), 6);
        x.put(SET, 8, 0);
        x.compile();
        x.wipe();
        is(x.variable(0), 6);
        written(x, SHORT, 1, 0);
        is(x.variable(0), 5);
        written(x, RANGE, 1, 0, 256);
        is(x.variable(0), 5);
    }
}
