/** The sentences of promise 6, parse, and promise 9, write, and of what ends them early. */
public final class EndingSentencesTest extends Sentences {
    private static final String BOTH = "promises 6 and 9";

    public static void main(String[] args) {
        parseEmptiesTheInput();
        parseNotReady();
        parseReplacesTheList();
        parseEndsEarlyWithAList();
        parseInOrder();
        writeLeavesTheList();
        writeInOrder();
        writeNotReady();
        writeShowsTheBytes();
        writeWithoutByteBegun();
        writeClosesBeforeItEnds();
        stepsOfEachKind();
        stepsOfElseAndEnd();
        stepsComeTo();
        manyValues();
        manyValuesOfOthers();
        manyValuesInWrite();
        manyFirst();
        paddingBeforeTheItem();
        rangeOfRepeat();
        rangeOfBlock();
        rangeOfBound();
        rangeOfIntInWrite();
        rangeOfSignedIntInWrite();
        rangeOfBitsInWrite();
        anyValueInWrite();
        shortInput();
        shortInputInBlock();
        shortBlock();
        shortBits();
        shortNoValue();
        shortNoValueBeforeRange();
        shortRoom();
        shortRoomInBlock();
        shortRoomOfBlock();
        shortRoomOfBits();
        rangeBeforeShortRoom();
        mismatchOfByte();
        mismatchOfSum();
        shortBeforeMismatch();
        paddingOfAlign();
        shortBeforePaddingOfAlign();
        paddingOfLongVar();
        paddingOfFifthByte();
        shortVar();
        leftOfBlock();
        leftOfBlockBehindClosing();
        leftOfInput();
        leftOfValues();
        leftBehindClosing();
        end();
    }

    private static int[] value(int kind) {
        return kind <= BITS ? row(9) : row();
    }

    // Promise 6

    private static void parseEmptiesTheInput() {
        sentence("promise 6", "Takes the input (it is empty after it) apart: OK or what ended it.");
        int[][] inputs = {{}, {1}, {2}, {1, 1}, {1, 1, 1, 1}, times(64, 1), times(64, 2)};
        int[] answers = {SHORT, OK, MISMATCH, LEFT, LEFT, LEFT, MISMATCH};
        for (int i = 0; i < inputs.length; i++) {
            Bench x = format(BYTE, 1, 0);
            feedAll(x, inputs[i]);
            is(x.parse(), answers[i]);
            is(x.parse(), SHORT);
            is(x.feed(1, 1), 1);
            is(x.parse(), OK);
            feedAll(x, times(64, 1));
            is(x.feed(1, 1), 64);
        }
    }

    private static void parseNotReady() {
        sentence("promise 6", "NOT_READY, and the input stays, without a format.");
        Bench x = items(BYTE, 5, 0, BYTE, 6, 0);
        x.value(77);
        x.feed(0x0605, 2);
        is(x.parse(), NOT_READY);
        is(x.place(), -1);
        is(x.at(), 0);
        hasValues(x, 77);
        x.compile();
        parsed(x, OK, NONE, 2);
        x = items(END, 0, 0);
        is(x.compile(), STRUCTURE);
        feedAll(x, times(64, 1));
        is(x.parse(), NOT_READY);
        is(x.feed(1, 1), 64);
        x.wipe();
        is(x.parse(), NOT_READY);
        x.compile();
        is(x.parse(), LEFT);
    }

    private static void parseReplacesTheList() {
        sentence("promise 6", "A parse replaces the list of values by those of its items 0, 1, 2 in their order");
        Bench x = format(INT, 1, 0, SET, 5, 1, VAR, 0, 1, BYTE, 1, 0, BITS, 4, 2, ADD, 1, 0);
        list(x, times(40, 123));
        parsed(x, OK, NONE, 4, 7, 8, 1, 0x90);
        hasValues(x, 7, 8, 9);
        x.wipe();
        putAll(x, BYTE, 1, 0);
        x.compile();
        parsed(x, OK, NONE, 1, 1);
        hasValues(x);
        x = format(SET, 20, 0, REPEAT, 0, 0, BITS, 1, 1, BITS, 1, 2, END, 0, 0);
        parsed(x, OK, NONE, 5, 255, 0, 255, 0, 255);
        is(x.values(), 40);
        is(x.valueAt(7), 1);
        is(x.valueAt(8), 0);
        is(x.valueAt(39), 1);
    }

    private static void parseEndsEarlyWithAList() {
        sentence("promise 6", "also when it ends early");
        for (int taken = 0; taken <= 3; taken++) {
            Bench x = format(INT, 1, 0, INT, 1, 1, INT, 1, 2, BYTE, 9, 0);
            list(x, times(40, 123));
            parsed(x, SHORT, taken, taken, times(taken, 5));
            hasValues(x, times(taken, 5));
        }
        Bench x = format(INT, 1, 0, VAR, 0, 1);
        list(x, 1, 2, 3);
        parsed(x, PADDING, 1, 1, 4, 128, 0);
        hasValues(x, 4);
        is(x.variable(0), 4);
        is(x.variable(1), 0);
        parsed(x, LEFT, 2, 2, 4, 5, 6);
        hasValues(x, 4, 5);
    }

    private static void parseInOrder() {
        sentence(BOTH, "They do the items from the first on");
        Bench x = format(INT, 1, 0, INT, 1, 0, BYTE, 3, 0);
        bothWays(x, row(1, 2, 3), 1, 2);
        is(x.variable(0), 2);
    }

    // Promise 9

    private static void writeLeavesTheList() {
        sentence("promise 9", "a write takes them in order and leaves the list.");
        Bench x = format(INT, 1, 0, INT, 1, 1);
        int[][] lists = {{}, {1}, {1, 2}, {1, 2, 3}, {256, 2}, {1, 256}};
        int[] answers = {SHORT, SHORT, OK, LEFT, RANGE, RANGE};
        for (int i = 0; i < lists.length; i++) {
            list(x, lists[i]);
            is(x.write(), answers[i]);
            hasValues(x, lists[i]);
            is(x.write(), answers[i]);
        }
        list(x, times(40, 1));
        is(x.write(), LEFT);
        is(x.values(), 40);
        is(x.value(1), REFUSED);
    }

    private static void writeInOrder() {
        sentence("promise 9", "WRITE puts bytes together from the list of VALUES.");
        Bench x = format(INT, 1, 0, VAR, 0, 1, BITS, 8, 2, SET, 9, 0, INT, 1, 3);
        written(x, OK, NONE, 4, 4, 3, 2, 1);
        hasBytes(x, 4, 3, 2, 1);
        is(x.variable(0), 9);
        is(x.variable(1), 3);
        is(x.variable(2), 2);
        is(x.variable(3), 1);
    }

    private static void writeNotReady() {
        sentence("promise 9", "NOT_READY without a format.");
        Bench x = items(INT, 1, 0);
        x.value(5);
        is(x.write(), NOT_READY);
        hasValues(x, 5);
        hasBytes(x);
        is(x.place(), -1);
        is(x.at(), 0);
        x.put(ADD, 1, 7);
        is(x.compile(), UNSET);
        is(x.write(), NOT_READY);
        is(x.place(), 1);
        x.wipe();
        is(x.write(), NOT_READY);
        x.compile();
        is(x.write(), LEFT);
    }

    private static void writeShowsTheBytes() {
        sentence("promise 9", "OK or what ended it (the bytes made by then");
        Bench x = format(INT, 2, 0, INT, 2, 1);
        written(x, OK, NONE, 4, 0x0102, 0x0304);
        hasBytes(x, 1, 2, 3, 4);
        written(x, RANGE, 1, 2, 0x0506, 65536);
        hasBytes(x, 5, 6);
        written(x, LEFT, 2, 4, 0x0708, 0x090a, 1);
        hasBytes(x, 7, 8, 9, 10);
        written(x, SHORT, 0, 0);
        hasBytes(x);
        x = format(join(ones(63), row(INT, 2, 0)));
        written(x, SHORT, 8, 63, 5);
        is(x.bytes(), 63);
        is(x.byteAt(62), 1);
        is(x.byteAt(63), -1);
    }

    private static void writeWithoutByteBegun() {
        sentence("promise 9", "without a byte begun by BITS, stay to be seen)");
        for (int bits = 1; bits <= 16; bits++) {
            int begun = bits > 8 ? 2 : 1;
            int whole = bits / 8;
            int most = (1 << bits) - 1;
            int[] seen = times(whole, 255);
            Bench noValue = format(BITS, bits, 0, BITS, 1, 1);
            written(noValue, SHORT, 1, begun, most);
            hasBytes(noValue, seen);
            written(noValue, RANGE, 1, begun, most, 2);
            hasBytes(noValue, seen);
            Bench bound = format(BITS, bits, 0, SET, -1, 1, BOUND, 1, 1);
            written(bound, RANGE, 2, begun, most);
            hasBytes(bound, seen);
            Bench repeat = format(BITS, bits, 0, SET, 33, 1, REPEAT, 1, 1, END, 0, 0);
            written(repeat, RANGE, 2, begun, most);
            hasBytes(repeat, seen);
            Bench many = format(join(row(BITS, bits, 0), steps399(), row(INT, 1, 0)));
            written(many, MANY, 29, begun, most, 7);
            hasBytes(many, seen);
        }
        Bench noRoom = format(join(ones(63), row(BITS, 1, 0, BITS, 8, 0)));
        written(noRoom, SHORT, 9, 64, 1, 1);
        is(noRoom.bytes(), 63);
    }

    private static void writeClosesBeforeItEnds() {
        sentence("promise 9", "(For an item this is done right after the tests for MANY; in a write the byte is made then, with zeros.)");
        Bench noValue = format(BITS, 3, 0, INT, 1, 1);
        written(noValue, SHORT, 1, 1, 7);
        hasBytes(noValue, 0xe0);
        written(noValue, RANGE, 1, 1, 7, 256);
        hasBytes(noValue, 0xe0);
        Bench noVar = format(BITS, 3, 0, VAR, 0, 1);
        written(noVar, SHORT, 1, 1, 7);
        hasBytes(noVar, 0xe0);
        Bench block = format(BITS, 3, 0, SET, -1, 1, BLOCK, 0, 1, END, 0, 0);
        written(block, RANGE, 2, 1, 7);
        hasBytes(block, 0xe0);
        Bench longBlock = format(BITS, 3, 0, SET, 64, 1, BLOCK, 0, 1, END, 0, 0);
        written(longBlock, SHORT, 2, 1, 7);
        hasBytes(longBlock, 0xe0);
        int[][] last = {{INT, 1, 2}, {VAR, 0, 2}, {BYTE, 1, 0}, {SUM, 1, 0}, {ALIGN, 7, 0}};
        for (int[] item : last) {
            Bench full = format(join(ones(63), row(BITS, 3, 2), item));
            written(full, SHORT, 9, 64, 7, 1);
            is(full.bytes(), 64);
            is(full.byteAt(63), 0xe0);
        }
        Bench end = format(SET, 2, 1, BLOCK, 0, 1, BITS, 3, 0, END, 0, 0);
        written(end, LEFT, 3, 1, 7);
        hasBytes(end, 0xe0);
        Bench left = format(BITS, 3, 0);
        written(left, LEFT, 1, 1, 7, 7);
        hasBytes(left, 0xe0);
    }

    // MANY

    private static final String STEPS = "each item but ELSE and END that is come to counts one step.";

    /** One item of each kind that counts a step, with its END, such that it ends nothing behind 399 other steps. */
    private static int[] oneStep(int kind) {
        int[][] all = {{INT, 1, 4}, {VAR, 0, 4}, {BITS, 8, 4}, {BYTE, 9, 0}, {REPEAT, 0, 1, END, 0, 0},
            {WHEN, 0, 3, ELSE, 0, 0, END, 0, 0}, {BLOCK, 0, 3, END, 0, 0}, {SUM, 9, 0}, {ALIGN, 2, 0}, {BOUND, 0, 3},
            {SET, 7, 4}, {ADD, 7, 3}};
        return all[kind];
    }

    private static int[] oneByte(int kind) {
        return kind <= BYTE || kind == SUM ? row(9) : row();
    }

    private static void stepsOfEachKind() {
        sentence(BOTH, "MANY: it would be step 401");
        for (int kind = 0; kind <= 11; kind++) {
            Bench x = format(join(steps399(), oneStep(kind)));
            bothWays(x, oneByte(kind), value(kind));
            x = format(join(steps399(), row(SET, 1, 5), oneStep(kind)));
            bothEnd(x, MANY, 29, 0, oneByte(kind), value(kind));
            is(x.variable(5), 1);
            x = format(join(steps399(), oneStep(kind), row(SET, 1, 5)));
            int place = 28 + oneStep(kind).length / 3;
            bothEnd(x, MANY, place, oneByte(kind).length, oneByte(kind), value(kind));
            is(x.variable(5), 0);
        }
    }

    private static void stepsOfElseAndEnd() {
        sentence(BOTH + ", ELSE and END", STEPS);
        bothWays(format(join(steps399(), row(REPEAT, 0, 1, END, 0, 0))), row());
        bothWays(format(join(steps399(), row(REPEAT, 0, 3, END, 0, 0))), row());
        bothWays(format(join(steps399(), row(WHEN, 0, 3, ELSE, 0, 0, END, 0, 0))), row());
        bothWays(format(join(steps399(), row(WHEN, 1, 3, ELSE, 0, 0, END, 0, 0))), row());
        Bench x = format(SET, 32, 0, REPEAT, 0, 0, REPEAT, 0, 0, END, 0, 0, WHEN, 32, 0, ELSE, 0, 0, END, 0, 0,
            WHEN, 0, 0, ELSE, 0, 0, END, 0, 0, SET, 1, 1, SET, 2, 1, SET, 3, 1, SET, 4, 1, SET, 5, 1, END, 0, 0, BYTE, 1, 0);
        // 2 steps, 32 rounds of 8, and 1: 259 of 400, with more than 1,000 ENDs.
        bothWays(x, row(1));
    }

    private static void stepsComeTo() {
        sentence(BOTH + ", what is come to", STEPS);
        int[] skipped = {WHEN, 1, 3, SET, 9, 5, SET, 9, 5, END, 0, 0};
        bothWays(format(join(steps399(), skipped)), row());
        bothEnd(format(join(steps399(), skipped, row(BYTE, 1, 0))), MANY, 32, 0, row(1));
        int[] chosen = {WHEN, 0, 3, SET, 9, 5, SET, 9, 5, END, 0, 0};
        bothEnd(format(join(steps399(), chosen)), MANY, 29, 0, row());
        int[] otherwise = {WHEN, 1, 3, SET, 9, 5, ELSE, 0, 0, SET, 8, 5, END, 0, 0};
        Bench x = format(join(steps399(), otherwise));
        bothEnd(x, MANY, 31, 0, row());
        is(x.variable(5), 0);
        int[] noRound = {REPEAT, 0, 3, SET, 9, 5, SET, 9, 5, END, 0, 0};
        bothWays(format(join(steps399(), noRound)), row());
        // 3 + 12 * 33 is 399 again, so that of one round more the REPEAT is step 400, and its SET 401.
        int[] rounds = {SET, 32, 1, REPEAT, 0, 0, REPEAT, 0, 1, SET, 5, 2, END, 0, 0, END, 0, 0};
        bothWays(format(join(row(SET, 12, 0), rounds, row(BYTE, 1, 0))), row(1));
        bothEnd(format(join(row(SET, 12, 0), rounds, row(BYTE, 1, 0, BYTE, 2, 0))), MANY, 8, 1, row(1, 2));
        bothEnd(format(join(row(SET, 13, 0), rounds)), MANY, 4, 0, row());
    }

    /** 40 values in 6 items, or 39 in 7, and either in 5 bytes; with 39 one bit is left. */
    private static int[] bitsOf(int count) {
        int[] forty = {SET, 20, 0, SET, 0, 3, REPEAT, 0, 0, BITS, 1, 1, BITS, 1, 1, END, 0, 0};
        int[] thirtyNine = {SET, 13, 0, SET, 0, 3, REPEAT, 0, 0, BITS, 1, 1, BITS, 1, 1, BITS, 1, 1, END, 0, 0};
        return count == 40 ? forty : thirtyNine;
    }

    private static void manyValues() {
        sentence("promise 6", "in a parse, for 0, 1, 2: 40 values are there.");
        for (int kind = 0; kind <= 2; kind++) {
            Bench x = format(join(bitsOf(40), oneStep(kind)));
            parsed(x, MANY, 6, 5, 255, 255, 255, 255, 255, 9);
            is(x.values(), 40);
            is(x.valueAt(39), 1);
            is(x.variable(4), 0);
            x = format(join(bitsOf(39), oneStep(kind)));
            parsed(x, OK, NONE, 6, kind == BITS ? row(255, 255, 255, 255, 254, 18) : row(255, 255, 255, 255, 254, 9));
            is(x.values(), 40);
            is(x.valueAt(39), 9);
            is(x.variable(4), 9);
            x = format(join(bitsOf(39), oneStep(kind), oneStep(kind)));
            parsed(x, MANY, 8, 6, 255, 255, 255, 255, 254, 8, 9);
            is(x.values(), 40);
            x = format(oneStep(kind));
            list(x, times(40, 1));
            parsed(x, OK, NONE, 1, 9);
        }
    }

    private static void manyValuesOfOthers() {
        sentence("promise 6, the other kinds", "in a parse, for 0, 1, 2: 40 values are there.");
        int[] bytes = {0, 0, 0, 0, 0};
        for (int kind = BYTE; kind <= ADD; kind++) {
            int[] item = kind == REPEAT ? row(REPEAT, 0, 0, END, 0, 0) : oneStep(kind);
            int[] behind = kind == ALIGN ? row(0) : oneByte(kind);
            Bench x = format(join(bitsOf(40), item));
            parsed(x, OK, NONE, 5 + behind.length, join(bytes, behind));
            is(x.values(), 40);
        }
    }

    private static void manyValuesInWrite() {
        sentence("promise 9", "in a parse, for 0, 1, 2: 40 values are there.");
        Bench x = format(bitsOf(40));
        written(x, OK, NONE, 5, times(40, 1));
        for (int kind = 0; kind <= 2; kind++) {
            x = format(join(bitsOf(40), oneStep(kind)));
            written(x, SHORT, 6, 5, times(40, 1));
            x = format(oneStep(kind));
            written(x, LEFT, 1, 1, times(40, 1));
        }
        x = format(join(bitsOf(39), row(INT, 1, 4)));
        written(x, OK, NONE, 6, times(40, 1));
    }

    private static void manyFirst() {
        sentence(BOTH, "What ends them early, tested in this order for an item: MANY");
        int[] begun = join(row(BITS, 1, 6), steps399());
        bothEnd(format(join(begun, row(INT, 4, 4))), MANY, 29, 1, row(255), 1, 0);
        parsed(format(join(begun, row(BYTE, 4, 4))), MANY, 29, 1, 255, 5);
        parsed(format(join(begun, row(BYTE, 4, 4))), MANY, 29, 1, 128, 5);
        parsed(format(join(begun, row(SUM, 4, 4))), MANY, 29, 1, 128, 5);
        parsed(format(join(begun, row(ALIGN, 2, 4))), MANY, 29, 1, 128, 5);
        parsed(format(join(begun, row(VAR, 2, 4))), MANY, 29, 1, 128, 128, 0);
        written(format(join(begun, row(INT, 1, 4))), MANY, 29, 1, 1);
        written(format(join(begun, row(INT, 1, 4))), MANY, 29, 1, 1, 256);
        bothEnd(format(join(begun, row(BOUND, -1, 3))), MANY, 29, 1, row(128), 1);
        int[] wrong = join(row(SET, -1, 6), steps399());
        bothEnd(format(join(wrong, row(REPEAT, 0, 6, END, 0, 0))), MANY, 29, 0, row());
        bothEnd(format(join(wrong, row(BLOCK, 0, 6, END, 0, 0))), MANY, 29, 0, row());
        // 40 values are there, and a bit that is not 0 is left, or a byte is missing.
        int[] left = {BITS, 4, 5, BITS, 4, 5, BITS, 4, 5};
        int[] full = {SET, 12, 0, REPEAT, 0, 0, BITS, 1, 1, BITS, 1, 1, BITS, 1, 1, END, 0, 0, BITS, 1, 5};
        for (int kind = 0; kind <= 1; kind++) {
            parsed(format(join(full, left, oneStep(kind))), MANY, 10, 7, times(7, 255));
            parsed(format(join(full, left, oneStep(kind))), MANY, 10, 7, 0, 0, 0, 0, 0, 0, 0);
        }
        parsed(format(join(bitsOf(40), row(BITS, 1, 1))), MANY, 6, 5, times(5, 0));
    }

    // PADDING of bits

    private static void paddingBeforeTheItem() {
        sentence("promise 6", "PADDING: bits passed over are not 0 (parse).");
        Bench block = format(SET, -1, 0, BITS, 7, 1, BLOCK, 0, 0, END, 0, 0);
        parsed(block, PADDING, 2, 1, 1);
        parsed(block, RANGE, 2, 1, 0);
        Bench longBlock = format(SET, 1, 0, BITS, 7, 1, BLOCK, 0, 0, END, 0, 0);
        parsed(longBlock, PADDING, 2, 1, 1);
        parsed(longBlock, SHORT, 2, 1, 0);
        Bench number = format(BITS, 7, 1, INT, 1, 0);
        parsed(number, PADDING, 1, 1, 1);
        parsed(number, SHORT, 1, 1, 0);
        Bench var = format(BITS, 7, 1, VAR, 1, 0);
        parsed(var, PADDING, 1, 1, 1);
        parsed(var, SHORT, 1, 1, 0);
        Bench fixed = format(BITS, 7, 1, BYTE, 1, 0);
        parsed(fixed, PADDING, 1, 1, 1, 2);
        parsed(fixed, MISMATCH, 1, 1, 0, 2);
        parsed(fixed, PADDING, 1, 1, 1);
        parsed(fixed, SHORT, 1, 1, 0);
        Bench sum = format(BITS, 7, 1, SUM, 0, 0);
        parsed(sum, PADDING, 1, 1, 1, 9);
        parsed(sum, MISMATCH, 1, 1, 0, 9);
        Bench align = format(BITS, 7, 1, ALIGN, 2, 0);
        parsed(align, PADDING, 1, 1, 1);
        parsed(align, SHORT, 1, 1, 0);
    }

    // RANGE

    private static final int[] NUMBERS = {LEAST, LEAST + 1, -256, -33, -32, -1, 0, 1, 31, 32, 33, 34, 64, 65, 256, 288,
        MOST - 1, MOST};

    private static void rangeOfRepeat() {
        sentence(BOTH, "RANGE: the count of REPEAT is not 0 .. 32");
        for (int count : NUMBERS) {
            boolean fits = count >= 0 && count <= 32;
            Bench x = format(BYTE, 5, 0, SET, count, 0, REPEAT, 0, 0, BYTE, 6, 0, END, 0, 0);
            int[] bytes = join(row(5), times(fits ? count : 1, 6));
            bothEnd(x, fits ? OK : RANGE, fits ? NONE : 2, fits ? 1 + count : 1, bytes);
            is(x.bytes(), fits ? 1 + count : 1);
            bothEnd(format(SET, count, 7, REPEAT, 0, 7, END, 0, 0), fits ? OK : RANGE, fits ? NONE : 1, 0, row());
        }
    }

    private static void rangeOfBlock() {
        sentence(BOTH, "v of BLOCK is below 0");
        for (int length : NUMBERS) {
            Bench x = format(SET, length, 0, BLOCK, 0, 0, END, 0, 0);
            int answer = length < 0 ? RANGE : length == 0 ? OK : SHORT;
            parsed(x, answer, length == 0 ? NONE : 1, 0);
            int inWrite = length < 0 ? RANGE : length == 0 ? OK : length > 64 ? SHORT : LEFT;
            written(x, inWrite, length == 0 ? NONE : length > 0 && length <= 64 ? 2 : 1, 0);
        }
        Bench x = format(BYTE, 1, 0, SET, LEAST, 0, BLOCK, 0, 0, END, 0, 0);
        bothEnd(x, RANGE, 2, 1, row(1));
    }

    private static void rangeOfBound() {
        sentence(BOTH, "BOUND does not hold");
        Bench x = format(INT, 1, SIGNED, BOUND, 5, 0, BYTE, 7, 0);
        bothWays(x, row(0, 7), 0);
        bothWays(x, row(5, 7), 5);
        bothEnd(x, RANGE, 1, 1, row(6, 7), 6);
        bothEnd(x, RANGE, 1, 1, row(255, 7), -1);
        hasBytes(x, 255);
    }

    private static void fits(int kind, int a, int b, int number, boolean so) {
        Bench x = format(BYTE, 7, 0, kind, a, b + 3);
        written(x, so ? OK : RANGE, so ? NONE : 1, so ? 1 + (kind == INT ? a : (a + 7) / 8) : 1, number);
        is(x.variable(3), so ? number : 0);
        is(x.bytes(), so ? 1 + (kind == INT ? a : (a + 7) / 8) : 1);
    }

    private static void rangeOfIntInWrite() {
        sentence("promise 9", "in a write, the value does not fit: 0 to the greatest number of a bytes");
        for (int length = 1; length <= 3; length++) {
            int most = (1 << 8 * length) - 1;
            for (int order = 0; order <= LOW_FIRST; order += LOW_FIRST) {
                fits(INT, length, order, 0, true);
                fits(INT, length, order, 1, true);
                fits(INT, length, order, most / 2 + 1, true);
                fits(INT, length, order, most - 1, true);
                fits(INT, length, order, most, true);
                fits(INT, length, order, most + 1, false);
                fits(INT, length, order, most + 2, false);
                fits(INT, length, order, MOST, false);
                fits(INT, length, order, -1, false);
                fits(INT, length, order, -most, false);
                fits(INT, length, order, LEAST, false);
            }
        }
    }

    private static void rangeOfSignedIntInWrite() {
        sentence("promise 9", "(with a sign: of those with sign)");
        for (int length = 1; length <= 3; length++) {
            int most = (1 << 8 * length - 1) - 1;
            for (int order = SIGNED; order <= SIGNED + LOW_FIRST; order += LOW_FIRST) {
                fits(INT, length, order, 0, true);
                fits(INT, length, order, -1, true);
                fits(INT, length, order, most, true);
                fits(INT, length, order, most + 1, false);
                fits(INT, length, order, 2 * most + 1, false);
                fits(INT, length, order, -most, true);
                fits(INT, length, order, -most - 1, true);
                fits(INT, length, order, -most - 2, false);
                fits(INT, length, order, MOST, false);
                fits(INT, length, order, LEAST, false);
            }
        }
    }

    private static void rangeOfBitsInWrite() {
        sentence("promise 9", "or of a bits");
        for (int bits = 1; bits <= 16; bits++) {
            int most = (1 << bits) - 1;
            fits(BITS, bits, 0, 0, true);
            fits(BITS, bits, 0, 1, true);
            fits(BITS, bits, 0, most, true);
            fits(BITS, bits, 0, most + 1, false);
            fits(BITS, bits, 0, most + 2, false);
            fits(BITS, bits, 0, MOST, false);
            fits(BITS, bits, 0, -1, false);
            fits(BITS, bits, 0, LEAST, false);
        }
    }

    private static void anyValueInWrite() {
        sentence("promise 9", "(4 bytes and VAR: any value).");
        int[] any = {LEAST, LEAST + 1, -65536, -1, 0, 1, 65536, MOST - 1, MOST};
        for (int number : any) {
            for (int flags = 0; flags <= 24; flags += 8) {
                fits(INT, 4, flags, number, true);
            }
            Bench x = format(VAR, 0, 3);
            list(x, number);
            is(x.write(), OK);
            is(x.variable(3), number);
        }
    }

    // SHORT

    private static final int[][] TAKING = {{INT, 1, 2}, {INT, 2, 2}, {INT, 3, 2}, {INT, 4, 2}, {VAR, 0, 2}, {BITS, 8, 2},
        {BITS, 9, 2}, {BITS, 16, 2}, {BYTE, 0, 0}, {SUM, 0, 0}};
    private static final int[] TAKEN = {1, 2, 3, 4, 1, 1, 2, 2, 1, 1};

    private static int[] listFor(int[] item) {
        return item[0] <= BITS ? row(0) : row();
    }

    private static void shortInput() {
        sentence("promise 6", "SHORT: in a parse there are less bytes (up to the end of the innermost open BLOCK, or of the input)"
            + " than the item takes");
        for (int i = 0; i < TAKING.length; i++) {
            Bench x = format(join(row(BYTE, 0, 0), TAKING[i]));
            parsed(x, SHORT, 1, 1, times(TAKEN[i], 0));
            hasValues(x);
            parsed(x, OK, NONE, 1 + TAKEN[i], times(1 + TAKEN[i], 0));
            parsed(x, LEFT, 2, 1 + TAKEN[i], times(2 + TAKEN[i], 0));
            // What an earlier parse had in the input is not there any more.
            parsed(x, SHORT, 1, 1, times(TAKEN[i], 0));
            parsed(x, SHORT, 0, 0);
        }
        parsed(format(join(ones(63), row(INT, 2, 2))), SHORT, 8, 63, times(64, 1));
        parsed(format(join(ones(62), row(INT, 2, 2))), OK, NONE, 64, times(64, 1));
        parsed(format(join(ones(64), row(BYTE, 1, 2))), SHORT, 8, 64, times(64, 1));
    }

    private static void shortInputInBlock() {
        sentence("promise 6, a BLOCK", "up to the end of the innermost open BLOCK, or of the input");
        for (int i = 0; i < TAKING.length; i++) {
            int[] much = times(12, 0);
            Bench x = format(join(row(SET, TAKEN[i], 0, BLOCK, 0, 0), TAKING[i], row(END, 0, 0)));
            parsed(x, LEFT, 4, TAKEN[i], much);
            x = format(join(row(SET, TAKEN[i] - 1, 0, BLOCK, 0, 0), TAKING[i], row(END, 0, 0)));
            parsed(x, SHORT, 2, 0, much);
            x = format(join(row(SET, 9, 0, SET, TAKEN[i] - 1, 1, BLOCK, 0, 0, BLOCK, 0, 1), TAKING[i],
                row(END, 0, 0, END, 0, 0)));
            parsed(x, SHORT, 4, 0, much);
            x = format(join(row(SET, TAKEN[i], 0, SET, 1, 1, BLOCK, 0, 0, BLOCK, 0, 1, BYTE, 0, 0, END, 0, 0), TAKING[i],
                row(END, 0, 0)));
            parsed(x, SHORT, 6, 1, much);
        }
    }

    private static void shortBlock() {
        sentence("promise 6", "(for BLOCK: than v;");
        int[] over = {1, 2, 255, MOST - 64, MOST - 1, MOST};
        for (int there = 0; there <= 3; there++) {
            int[] bytes = join(row(1), times(there, 0));
            Bench x = format(BYTE, 1, 0, SET, there, 0, BLOCK, 0, 0, SET, 0, 1, END, 0, 0);
            parsed(x, there == 0 ? OK : LEFT, there == 0 ? NONE : 4, 1, bytes);
            for (int more : over) {
                int length = more > MOST - there ? MOST : there + more;
                parsed(format(BYTE, 1, 0, SET, length, 0, BLOCK, 0, 0, END, 0, 0), SHORT, 2, 1, bytes);
            }
        }
        Bench nested = format(INT, 1, 0, INT, 1, 1, BLOCK, 0, 0, BLOCK, 0, 1, REPEAT, 0, 1, BYTE, 0, 0, END, 0, 0,
            END, 0, 0, END, 0, 0);
        parsed(nested, LEFT, 8, 3, 2, 1, 0, 0, 0, 0);
        parsed(nested, OK, NONE, 4, 2, 2, 0, 0);
        parsed(nested, SHORT, 3, 2, 2, 3, 0, 0, 0, 0);
        parsed(nested, SHORT, 3, 2, 2, 255, 0, 0, 0, 0);
        parsed(format(join(row(SET, 64, 2, BLOCK, 0, 2), ones(64), row(END, 0, 0))), OK, NONE, 64, times(64, 1));
        parsed(format(SET, 65, 2, BLOCK, 0, 2, END, 0, 0), SHORT, 1, 0, times(64, 1));
    }

    private static int toBegin(int used, int bits) {
        int left = (8 - used % 8) % 8;
        return bits <= left ? 0 : (bits - left + 7) / 8;
    }

    private static void shortBits() {
        sentence("promise 6", "for BITS: bytes to begin)");
        for (int used = 1; used <= 16; used++) {
            for (int bits = 1; bits <= 16; bits++) {
                int begun = (used + 7) / 8;
                int need = toBegin(used, bits);
                Bench x = format(BITS, used, 0, BITS, bits, 1);
                parsed(x, OK, NONE, begun + need, times(begun + need, 0));
                Bench block = format(SET, begun + need, 2, BLOCK, 0, 2, BITS, used, 0, BITS, bits, 1, END, 0, 0, BYTE, 0, 0);
                parsed(block, OK, NONE, begun + need + 1, times(begun + need + 1, 0));
                if (need > 0) {
                    parsed(x, SHORT, 1, begun, times(begun + need - 1, 0));
                    hasValues(x, 0);
                    Bench tight = format(SET, begun + need - 1, 2, BLOCK, 0, 2, BITS, used, 0, BITS, bits, 1, END, 0, 0);
                    parsed(tight, SHORT, 3, begun, times(9, 0));
                }
            }
        }
    }

    private static void shortNoValue() {
        sentence("promise 9", "in a write no value is left for 0, 1, 2 (tested before RANGE)");
        for (int kind = 0; kind <= 2; kind++) {
            Bench x = format(join(oneStep(kind), oneStep(kind)));
            written(x, SHORT, 0, 0);
            written(x, SHORT, 1, 1, 9);
            hasBytes(x, 9);
            written(x, OK, NONE, 2, 9, 9);
            written(x, LEFT, 2, 2, 9, 9, 9);
        }
        for (int kind = BYTE; kind <= ADD; kind++) {
            Bench x = format(join(row(SET, 0, 1, SET, 0, 3), oneStep(kind)));
            written(x, OK, NONE, oneByte(kind).length);
        }
    }

    private static void shortNoValueBeforeRange() {
        sentence("promise 9, with an old value behind the list", "(tested before RANGE)");
        int[][] items = {{INT, 1, 0}, {INT, 3, SIGNED}, {BITS, 1, 0}, {BITS, 16, 0}};
        for (int[] item : items) {
            Bench x = format(item);
            written(x, RANGE, 0, 0, LEAST);
            written(x, SHORT, 0, 0);
            Bench two = format(join(row(INT, 1, 3), item));
            written(two, RANGE, 1, 1, 1, MOST);
            written(two, SHORT, 1, 1, 1);
        }
        // A value is missing, and room too.
        written(format(join(ones(64), row(INT, 1, 3))), SHORT, 8, 64);
    }

    private static final String ROOM = "or it would make more bytes than up to the end of the innermost open BLOCK, or 64, are allowed";

    private static void shortRoom() {
        sentence("promise 9, 64", ROOM);
        for (int i = 0; i < TAKING.length; i++) {
            int before = 64 - TAKEN[i];
            Bench x = format(join(ones(before), TAKING[i]));
            int[] values = listFor(TAKING[i]);
            written(x, OK, NONE, 64, values);
            is(x.bytes(), 64);
            x = format(join(ones(before + 1), TAKING[i]));
            written(x, SHORT, 8, before + 1, values);
            is(x.bytes(), before + 1);
            is(x.variable(2), 0);
        }
        int[] numbers = {127, 128, 16384, 2097152, 268435456};
        for (int length = 1; length <= 5; length++) {
            written(format(join(ones(64 - length), row(VAR, 0, 2))), OK, NONE, 64, numbers[length - 1]);
            written(format(join(ones(65 - length), row(VAR, 0, 2))), SHORT, 8, 65 - length, numbers[length - 1]);
        }
        written(format(join(ones(64), row(ALIGN, 8, 0))), OK, NONE, 64);
        written(format(join(ones(64), row(ALIGN, 7, 0))), SHORT, 8, 64);
        written(format(join(ones(63), row(ALIGN, 7, 0))), OK, NONE, 63);
        written(format(join(ones(61), row(ALIGN, 6, 0))), SHORT, 8, 61);
    }

    private static void shortRoomInBlock() {
        sentence("promise 9, a BLOCK", ROOM);
        for (int i = 0; i < TAKING.length; i++) {
            int[] values = listFor(TAKING[i]);
            Bench x = format(join(row(SET, TAKEN[i], 0, BLOCK, 0, 0), TAKING[i], row(END, 0, 0)));
            written(x, OK, NONE, TAKEN[i], values);
            x = format(join(row(SET, TAKEN[i] - 1, 0, BLOCK, 0, 0), TAKING[i], row(END, 0, 0)));
            written(x, SHORT, 2, 0, values);
            hasBytes(x);
            x = format(join(row(SET, 9, 0, SET, TAKEN[i] - 1, 1, BLOCK, 0, 0, BLOCK, 0, 1), TAKING[i],
                row(END, 0, 0, END, 0, 0)));
            written(x, SHORT, 4, 0, values);
            x = format(join(row(SET, TAKEN[i], 0, SET, 1, 1, BLOCK, 0, 0, BLOCK, 0, 1, BYTE, 0, 0, END, 0, 0), TAKING[i],
                row(END, 0, 0)));
            written(x, SHORT, 6, 1, values);
        }
        bothEnd(format(BYTE, 1, 0, SET, 2, 0, BLOCK, 0, 0, ALIGN, 4, 0, END, 0, 0), SHORT, 3, 1, row(1, 0, 0, 0));
        bothWays(format(BYTE, 1, 0, SET, 3, 0, BLOCK, 0, 0, ALIGN, 4, 0, END, 0, 0), row(1, 0, 0, 0));
        bothEnd(format(BYTE, 1, 0, SET, 4, 0, BLOCK, 0, 0, ALIGN, 4, 0, END, 0, 0), LEFT, 4, 4, row(1, 0, 0, 0, 0));
    }

    private static void shortRoomOfBlock() {
        sentence("promise 9", "(BLOCK: v bytes).");
        for (int before = 0; before <= 64; before += 16) {
            int room = 64 - before;
            int[] lengths = {room - 1, room, room + 1, room + 2, MOST - before, MOST - 1, MOST};
            for (int length : lengths) {
                Bench x = format(join(ones(before), row(SET, length, 2, BLOCK, 0, 2, END, 0, 0)));
                int answer = length < 0 ? RANGE : length == 0 ? OK : length <= room ? LEFT : SHORT;
                written(x, answer, answer == OK ? NONE : answer == LEFT ? 10 : 9, before);
            }
        }
        for (int inner = 0; inner <= 3; inner++) {
            Bench x = format(SET, 2, 0, SET, inner, 1, BLOCK, 0, 0, BLOCK, 0, 1, END, 0, 0, END, 0, 0);
            written(x, inner > 2 ? SHORT : LEFT, inner > 2 ? 3 : inner == 0 ? 5 : 4, 0);
        }
    }

    private static void shortRoomOfBits() {
        sentence("promise 9, BITS", ROOM);
        for (int used = 1; used <= 16; used++) {
            for (int bits = 1; bits <= 16; bits++) {
                int begun = (used + 7) / 8;
                int need = toBegin(used, bits);
                int before = 64 - begun - need;
                Bench x = format(join(ones(before), row(BITS, used, 2, BITS, bits, 3)));
                written(x, OK, NONE, 64, 1, 1);
                is(x.bytes(), 64);
                if (need > 0) {
                    x = format(join(ones(before + 1), row(BITS, used, 2, BITS, bits, 3)));
                    written(x, SHORT, 9, before + 1 + begun, 1, 1);
                    is(x.bytes(), before + 1 + used / 8);
                    is(x.variable(3), 0);
                    x = format(SET, begun + need - 1, 0, BLOCK, 0, 0, BITS, used, 2, BITS, bits, 3, END, 0, 0);
                    written(x, SHORT, 3, begun, 1, 1);
                }
                x = format(SET, begun + need, 0, BLOCK, 0, 0, BITS, used, 2, BITS, bits, 3, END, 0, 0);
                written(x, OK, NONE, begun + need, 1, 1);
            }
        }
    }

    private static void rangeBeforeShortRoom() {
        sentence("promise 9", "tested in this order for an item");
        written(format(join(ones(64), row(INT, 1, 2))), RANGE, 8, 64, 256);
        written(format(join(ones(64), row(INT, 1, 2))), SHORT, 8, 64, 255);
        written(format(join(ones(64), row(BITS, 1, 2))), RANGE, 8, 64, 2);
        written(format(join(ones(64), row(BITS, 1, 2))), SHORT, 8, 64, 1);
        written(format(join(ones(64), row(INT, 3, 2 + SIGNED))), RANGE, 8, 64, MOST);
        written(format(SET, 0, 0, BLOCK, 0, 0, INT, 1, 1, END, 0, 0), RANGE, 2, 0, -1);
        written(format(SET, 0, 0, BLOCK, 0, 0, INT, 1, 1, END, 0, 0), SHORT, 2, 0, 1);
        written(format(join(ones(64), row(SET, -1, 2, BLOCK, 0, 2, END, 0, 0))), RANGE, 9, 64);
    }

    // MISMATCH

    private static void mismatchOfByte() {
        sentence("promise 6, BYTE", "MISMATCH: in a parse, the byte of BYTE or SUM is another.");
        int[] due = {0, 1, 127, 128, 255};
        for (int a : due) {
            Bench x = format(BYTE, 9, 0, BYTE, a, 0);
            parsed(x, OK, NONE, 2, 9, a);
            parsed(x, MISMATCH, 1, 1, 9, a + 1 & 255);
            parsed(x, MISMATCH, 1, 1, 9, a - 1 & 255);
            for (int bit = 0; bit < 8; bit++) {
                parsed(x, MISMATCH, 1, 1, 9, a ^ 1 << bit);
            }
        }
    }

    private static void mismatchOfSum() {
        sentence("promise 6, SUM", "MISMATCH: in a parse, the byte of BYTE or SUM is another.");
        int[] before = {0, 1, 127, 128, 255};
        for (int first : before) {
            Bench x = format(INT, 1, 0, SUM, 2, 0);
            int sum = first + 2 & 255;
            parsed(x, OK, NONE, 2, first, sum);
            parsed(x, MISMATCH, 1, 1, first, sum + 1 & 255);
            parsed(x, MISMATCH, 1, 1, first, sum - 1 & 255);
            for (int bit = 0; bit < 8; bit++) {
                parsed(x, MISMATCH, 1, 1, first, sum ^ 1 << bit);
            }
            hasValues(x, first);
        }
    }

    private static void shortBeforeMismatch() {
        sentence("promise 6", "tested in this order for an item");
        Bench x = format(BYTE, 1, 0, BYTE, 2, 0);
        parsed(x, MISMATCH, 1, 1, 1, 3);
        parsed(x, SHORT, 1, 1, 1);
        x = format(SET, 0, 0, BLOCK, 0, 0, BYTE, 1, 0, END, 0, 0);
        parsed(x, SHORT, 2, 0, 2);
        x = format(SET, 0, 0, BLOCK, 0, 0, SUM, 1, 0, END, 0, 0);
        parsed(x, SHORT, 2, 0, 2);
    }

    // PADDING of ALIGN and VAR

    private static void paddingOfAlign() {
        sentence("promise 6", "PADDING: in a parse, a byte of ALIGN is not 0");
        for (int a = 2; a <= 8; a++) {
            for (int before = 1; before < a; before++) {
                int gap = a - before;
                for (int wrong = 0; wrong < gap; wrong++) {
                    Bench x = format(join(ones(before), row(ALIGN, a, 0)));
                    int[] bytes = join(times(before, 1), times(gap, 0));
                    bytes[before + wrong] = wrong % 2 == 0 ? 1 : 128;
                    parsed(x, PADDING, 8, before, bytes);
                    bytes[before + wrong] = 0;
                    parsed(x, OK, NONE, a, bytes);
                }
            }
        }
        // A byte that ALIGN does not take may be any.
        parsed(format(INT, 2, 0, ALIGN, 2, 0, BYTE, 1, 0), OK, NONE, 3, 7, 7, 1);
        parsed(format(ALIGN, 8, 0, BYTE, 1, 0), OK, NONE, 1, 1);
    }

    private static void shortBeforePaddingOfAlign() {
        sentence("promise 6, SHORT before the PADDING of ALIGN", "tested in this order for an item");
        Bench x = format(BYTE, 1, 0, ALIGN, 4, 0);
        parsed(x, SHORT, 1, 1, 1, 5);
        parsed(x, SHORT, 1, 1, 1, 0, 5);
        parsed(x, PADDING, 1, 1, 1, 0, 5, 0);
        x = format(BYTE, 1, 0, SET, 2, 0, BLOCK, 0, 0, ALIGN, 4, 0, END, 0, 0);
        parsed(x, SHORT, 3, 1, 1, 5, 5, 5);
    }

    private static void paddingOfLongVar() {
        sentence("promise 6", "or a VAR is longer than it must be");
        for (int more = 1; more <= 4; more++) {
            for (int first = 128; first <= 255; first += 127) {
                Bench x = format(BYTE, 1, 0, VAR, 0, 0);
                int[] head = join(row(1), times(more, first));
                parsed(x, PADDING, 1, 1, join(head, row(0)));
                hasValues(x);
                parsed(x, OK, NONE, 2 + more, join(head, row(1)));
                parsed(x, PADDING, 1, 1, join(head, row(0, 0)));
            }
        }
        parsed(format(VAR, 0, 0), OK, NONE, 1, 0);
        parsed(format(VAR, 0, 0), LEFT, 1, 1, 0, 0);
        parsed(format(VAR, 0, 0), OK, NONE, 3, 128, 128, 1);
    }

    private static void paddingOfFifthByte() {
        sentence("promise 6", "or its fifth byte is more than 15");
        for (int fifth = 0; fifth <= 255; fifth++) {
            Bench x = format(VAR, 0, 0);
            boolean good = fifth >= 1 && fifth <= 15;
            parsed(x, good ? OK : PADDING, good ? NONE : 0, good ? 5 : 0, 128, 128, 128, 128, fifth);
            parsed(x, good ? LEFT : PADDING, good ? 1 : 0, good ? 5 : 0, 255, 255, 255, 255, fifth, 1);
        }
        for (int fourth = 1; fourth <= 127; fourth += 14) {
            parsed(format(VAR, 0, 0), OK, NONE, 4, 128, 128, 128, fourth);
        }
    }

    private static void shortVar() {
        sentence("promise 6", "(bytes are looked at one by one; SHORT if it ends too early)");
        for (int more = 0; more <= 4; more++) {
            Bench x = format(BYTE, 1, 0, VAR, 0, 0);
            parsed(x, SHORT, 1, 1, join(row(1), times(more, 128)));
            parsed(x, SHORT, 1, 1, join(row(1), times(more, 255)));
            hasValues(x);
            Bench block = format(SET, more, 0, BLOCK, 0, 0, VAR, 0, 1, END, 0, 0);
            parsed(block, SHORT, 2, 0, join(times(more, 128), row(1, 1, 1)));
            parsed(block, SHORT, 2, 0, join(times(more, 128), row(0, 0, 0)));
            Bench fits = format(SET, more + 1, 0, BLOCK, 0, 0, VAR, 0, 1, END, 0, 0);
            parsed(fits, OK, NONE, more + 1, join(times(more, 128), row(1)));
            parsed(fits, more == 0 ? OK : PADDING, more == 0 ? NONE : 2, more == 0 ? 1 : 0, join(times(more, 128), row(0)));
        }
        Bench five = format(SET, 5, 0, BLOCK, 0, 0, VAR, 0, 1, END, 0, 0);
        parsed(five, PADDING, 2, 0, 128, 128, 128, 128, 128);
    }

    // LEFT

    private static void leftOfBlock() {
        sentence(BOTH, "LEFT: at the END of a BLOCK (after closing the bits) not v bytes are taken up");
        for (int taken = 0; taken <= 3; taken++) {
            for (int length = taken; length <= taken + 2; length++) {
                Bench x = format(BYTE, 7, 0, SET, taken, 0, SET, length, 1, BLOCK, 0, 1, REPEAT, 0, 0, BYTE, 9, 0, END, 0, 0,
                    END, 0, 0, BYTE, 8, 0);
                int[] bytes = join(row(7), times(taken, 9), row(8, 8, 8));
                if (length == taken) {
                    bothWays(x, join(row(7), times(taken, 9), row(8)));
                } else {
                    bothEnd(x, LEFT, 7, 1 + taken, bytes);
                    is(x.bytes(), 1 + taken);
                }
            }
        }
        bothEnd(format(SET, 1, 0, BLOCK, 0, 0, END, 0, 0), LEFT, 2, 0, row(1));
        bothEnd(format(join(row(SET, 64, 2, BLOCK, 0, 2), ones(63), row(END, 0, 0))), LEFT, 10, 63, times(64, 1));
    }

    private static void leftOfBlockBehindClosing() {
        sentence(BOTH, "at the END of a BLOCK (after closing the bits)");
        Bench one = format(SET, 1, 0, BLOCK, 0, 0, BITS, 7, 1, END, 0, 0);
        bothWays(one, row(0xfe), 127);
        parsed(one, PADDING, 3, 1, 0xff);
        Bench two = format(SET, 2, 0, BLOCK, 0, 0, BITS, 7, 1, END, 0, 0);
        bothEnd(two, LEFT, 3, 1, row(0xfe, 0), 127);
        hasBytes(two, 0xfe);
        parsed(two, PADDING, 3, 1, 0xff, 0);
        Bench nine = format(SET, 2, 0, BLOCK, 0, 0, BITS, 9, 1, END, 0, 0);
        bothWays(nine, row(0xff, 0x80), 511);
    }

    private static void leftOfInput() {
        sentence("promise 6", "at the end (after closing the bits) input, or values, are left.");
        for (int taken = 0; taken <= 64; taken += 8) {
            for (int more = 0; more <= 2 && taken + more <= 64; more++) {
                Bench x = format(ones(taken));
                parsed(x, more == 0 ? OK : LEFT, more == 0 ? NONE : 8, taken, times(taken + more, 1));
            }
        }
        parsed(format(), OK, NONE, 0);
        parsed(format(), LEFT, 0, 0, 0);
        parsed(format(), LEFT, 0, 0, times(64, 0));
        // Values that were there before the parse are not left over by it.
        Bench x = format(BYTE, 1, 0);
        list(x, 5);
        parsed(x, OK, NONE, 1, 1);
    }

    private static void leftOfValues() {
        sentence("promise 9", "at the end (after closing the bits) input, or values, are left.");
        for (int taken = 0; taken <= 3; taken++) {
            for (int more = 0; more <= 2; more++) {
                Bench x = format(times(taken, INT, 1, 0));
                written(x, more == 0 ? OK : LEFT, more == 0 ? NONE : taken, taken, times(taken + more, 1));
                is(x.bytes(), taken);
            }
        }
        written(format(), LEFT, 0, 0, times(40, 0));
        written(format(bitsOf(39)), OK, NONE, 5, times(39, 1));
        written(format(bitsOf(39)), LEFT, 7, 5, times(40, 1));
        // Input that waits for a parse is not left over by a write.
        Bench x = format(INT, 1, 0);
        feedAll(x, 1, 2, 3);
        written(x, OK, NONE, 1, 1);
        is(x.feed(4, 1), 4);
    }

    private static void leftBehindClosing() {
        sentence(BOTH, "at the end (after closing the bits)");
        for (int bits = 1; bits <= 7; bits++) {
            Bench x = format(BITS, bits, 0);
            parsed(x, LEFT, 1, 1, 0, 0);
            parsed(x, PADDING, 1, 1, 1, 0);
            written(x, LEFT, 1, 1, 1, 1);
            hasBytes(x, 1 << 8 - bits);
        }
        Bench x = format(BITS, 8, 0);
        parsed(x, LEFT, 1, 1, 255, 0);
        written(x, LEFT, 1, 1, 255, 1);
        hasBytes(x, 255);
    }
}
