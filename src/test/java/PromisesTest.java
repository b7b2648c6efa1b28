/** Each promise of the document by itself: ordinary inputs, the edges that it names, and wrong inputs. */
public final class PromisesTest {
    private static final int OK = 0, STRUCTURE = 1, UNSET = 2, SHORT = 3, RANGE = 4, MISMATCH = 5, PADDING = 6,
        LEFT = 7, MANY = 8, NOT_READY = 9, REFUSED = -1;
    private static final int INT = 0, VAR = 1, BITS = 2, BYTE = 3, REPEAT = 4, WHEN = 5, BLOCK = 6, SUM = 7,
        ALIGN = 8, BOUND = 9, SET = 10, ADD = 11, ELSE = 12, END = 13;
    private static final int LOW_FIRST = 8, SIGNED = 16;
    private static final int LEAST = -2147483648, MOST = 2147483647;
    private static final Due due = new Due();

    public static void main(String[] args) {
        newObject();
        put();
        wipe();
        compileStructure();
        compileUnset();
        compileKeepsFormat();
        feed();
        parse();
        parseInts();
        parseVars();
        parseBits();
        parseBytes();
        parseRepeatAndWhen();
        parseBlocks();
        parseBoundSetAdd();
        parseMany();
        parseOrder();
        values();
        write();
        writeInts();
        writeVarsAndBits();
        writeShort();
        writeEnds();
        place();
        at();
        bytes();
        variable();
        due.end();
    }

    // Helpers: items are given as kind, a, b, one after the other.

    private static FormatWorkshop items(int... items) {
        FormatWorkshop x = new FormatWorkshop();
        for (int i = 0; i < items.length; i += 3) {
            due.is("put " + i / 3, x.put(items[i], items[i + 1], items[i + 2]), i / 3 + 1);
        }
        return x;
    }

    private static FormatWorkshop format(int... items) {
        FormatWorkshop x = items(items);
        due.is("compile", x.compile(), OK);
        return x;
    }

    private static void checked(String what, FormatWorkshop x, int answer, int place) {
        due.is(what + ": compile", x.compile(), answer);
        due.is(what + ": place", x.place(), place);
    }

    private static void feedBytes(FormatWorkshop x, int... bytes) {
        for (int taken : bytes) {
            x.feed(taken, 1);
        }
    }

    private static void parsed(String what, FormatWorkshop x, int answer, int place, int at, int... bytes) {
        feedBytes(x, bytes);
        due.is(what + ": parse", x.parse(), answer);
        due.is(what + ": place", x.place(), place);
        due.is(what + ": at", x.at(), at);
    }

    private static void listed(String what, FormatWorkshop x, int... values) {
        due.is(what + ": values", x.values(), values.length);
        for (int k = 0; k < values.length; k++) {
            due.is(what + ": valueAt " + k, x.valueAt(k), values[k]);
        }
    }

    private static void list(FormatWorkshop x, int... values) {
        x.drop();
        for (int value : values) {
            x.value(value);
        }
    }

    private static void written(String what, FormatWorkshop x, int answer, int place, int at) {
        due.is(what + ": write", x.write(), answer);
        due.is(what + ": place", x.place(), place);
        due.is(what + ": at", x.at(), at);
    }

    private static void made(String what, FormatWorkshop x, int... bytes) {
        due.is(what + ": bytes", x.bytes(), bytes.length);
        for (int k = 0; k < bytes.length; k++) {
            due.is(what + ": byteAt " + k, x.byteAt(k), bytes[k]);
        }
        due.is(what + ": byteAt behind them", x.byteAt(bytes.length), -1);
    }

    // Promise 1

    private static void newObject() {
        FormatWorkshop x = new FormatWorkshop();
        due.is("new: place", x.place(), -1);
        due.is("new: at", x.at(), 0);
        due.is("new: values", x.values(), 0);
        due.is("new: valueAt", x.valueAt(0), 0);
        due.is("new: bytes", x.bytes(), 0);
        due.is("new: byteAt", x.byteAt(0), -1);
        for (int v = -1; v <= 8; v++) {
            due.is("new: variable", x.variable(v), 0);
        }
        due.is("new: parse", x.parse(), NOT_READY);
        due.is("new: write", x.write(), NOT_READY);
        due.is("new: drop", x.drop(), 0);
        due.is("new: wipe", x.wipe(), 0);
        due.is("new: feed", x.feed(0, 1), 1);
        FormatWorkshop other = new FormatWorkshop();
        due.is("a second object is apart: feed", other.feed(0, 1), 1);
        due.is("a second object is apart: value", other.value(1), 1);
        due.is("a second object is apart: values", x.values(), 0);
    }

    // Promise 2

    private static void put() {
        accepts(INT, 1, 0, true);
        accepts(INT, 4, 31, true);
        accepts(INT, 0, 0, false);
        accepts(INT, 5, 0, false);
        accepts(INT, 1, -1, false);
        accepts(INT, 1, 32, false);
        accepts(BITS, 1, 7, true);
        accepts(BITS, 16, 0, true);
        accepts(BITS, 0, 0, false);
        accepts(BITS, 17, 0, false);
        accepts(BYTE, 0, LEAST, true);
        accepts(BYTE, 255, MOST, true);
        accepts(BYTE, -1, 0, false);
        accepts(BYTE, 256, 0, false);
        accepts(ALIGN, 2, 8, true);
        accepts(ALIGN, 8, -1, true);
        accepts(ALIGN, 1, 0, false);
        accepts(ALIGN, 9, 0, false);
        accepts(SUM, LEAST, 99, true);
        accepts(SUM, MOST, -99, true);
        accepts(ELSE, LEAST, 8, true);
        accepts(END, MOST, -1, true);
        int[] withVariable = {VAR, BITS, REPEAT, WHEN, BLOCK, BOUND, SET, ADD};
        for (int kind : withVariable) {
            accepts(kind, 1, 0, true);
            accepts(kind, 1, 7, true);
            accepts(kind, 1, -1, false);
            accepts(kind, 1, 8, false);
            accepts(kind, LEAST, 0, kind != BITS);
            accepts(kind, MOST, 0, kind != BITS);
        }
        accepts(-1, 1, 1, false);
        accepts(14, 1, 1, false);
        accepts(LEAST, 1, 1, false);
        accepts(MOST, 1, 1, false);
        putForty();
    }

    private static void accepts(int kind, int a, int b, boolean taken) {
        FormatWorkshop x = items(BYTE, 7, 0);
        due.is("put " + kind + " " + a + " " + b, x.put(kind, a, b), taken ? 2 : REFUSED);
        due.is("wipe behind it", x.wipe(), taken ? 2 : 1);
    }

    private static void putForty() {
        FormatWorkshop x = new FormatWorkshop();
        for (int i = 1; i <= 40; i++) {
            due.is("put many", x.put(BYTE, i, 0), i);
        }
        due.is("put 41", x.put(BYTE, 41, 0), REFUSED);
        due.is("compile 40", x.compile(), OK);
        due.is("write 40", x.write(), OK);
        due.is("bytes 40", x.bytes(), 40);
        due.is("byteAt 39", x.byteAt(39), 40);
        due.is("wipe 40", x.wipe(), 40);
    }

    // Promise 3

    private static void wipe() {
        FormatWorkshop x = format(BYTE, 7, 0, BYTE, 8, 0);
        due.is("wipe", x.wipe(), 2);
        due.is("wipe again", x.wipe(), 0);
        written("the format stays", x, OK, -1, 2);
        made("the format stays", x, 7, 8);
        due.is("put begins anew", x.put(BYTE, 9, 0), 1);
        written("put does not change the format", x, OK, -1, 2);
        due.is("compile", x.compile(), OK);
        written("compile does", x, OK, -1, 1);
        made("compile does", x, 9);
        x.wipe();
        checked("no items", x, OK, -1);
        parsed("a format of no items", x, OK, -1, 0);
        parsed("a format of no items, input", x, LEFT, 0, 0, 1);
    }

    // Promise 4

    private static void compileStructure() {
        checked("END alone", items(BYTE, 1, 0, END, 0, 0), STRUCTURE, 1);
        checked("ELSE alone", items(ELSE, 0, 0), STRUCTURE, 0);
        checked("END twice", items(SET, 0, 0, REPEAT, 0, 0, END, 0, 0, END, 0, 0), STRUCTURE, 3);
        checked("ELSE twice", items(SET, 0, 0, WHEN, 0, 0, ELSE, 0, 0, ELSE, 0, 0, END, 0, 0), STRUCTURE, 3);
        checked("ELSE of REPEAT", items(SET, 0, 0, REPEAT, 0, 0, ELSE, 0, 0, END, 0, 0), STRUCTURE, 2);
        checked("ELSE of BLOCK", items(SET, 0, 0, BLOCK, 0, 0, ELSE, 0, 0, END, 0, 0), STRUCTURE, 2);
        checked("ELSE behind END", items(SET, 0, 0, WHEN, 0, 0, END, 0, 0, ELSE, 0, 0), STRUCTURE, 3);
        checked("ELSE in a REPEAT in a WHEN",
            items(SET, 0, 0, WHEN, 0, 0, REPEAT, 0, 0, ELSE, 0, 0, END, 0, 0, END, 0, 0), STRUCTURE, 3);
        checked("ELSE of both WHENs", items(SET, 0, 0, WHEN, 0, 0, WHEN, 0, 0, ELSE, 0, 0, END, 0, 0, ELSE, 0, 0,
            END, 0, 0), OK, -1);
        checked("left open", items(SET, 0, 0, WHEN, 0, 0, ELSE, 0, 0), STRUCTURE, 3);
        checked("open at the end", items(SET, 0, 0, BLOCK, 0, 0), STRUCTURE, 2);
        checked("STRUCTURE before UNSET", items(REPEAT, 0, 0, END, 0, 0, END, 0, 0), STRUCTURE, 2);
        checked("four open", items(SET, 0, 0, REPEAT, 0, 0, WHEN, 0, 0, BLOCK, 0, 0, WHEN, 0, 0, END, 0, 0,
            WHEN, 0, 0, END, 0, 0, END, 0, 0, END, 0, 0, END, 0, 0), OK, -1);
        int[] opening = {REPEAT, WHEN, BLOCK};
        for (int kind : opening) {
            checked("five open", items(SET, 0, 0, REPEAT, 0, 0, WHEN, 0, 0, BLOCK, 0, 0, REPEAT, 0, 0, kind, 0, 0,
                END, 0, 0, END, 0, 0, END, 0, 0, END, 0, 0, END, 0, 0), STRUCTURE, 5);
        }
    }

    private static void compileUnset() {
        int[] needing = {REPEAT, WHEN, BLOCK, BOUND, ADD};
        for (int kind : needing) {
            int end = kind == BOUND || kind == ADD ? SUM : END;
            checked("needs it set, kind " + kind, items(SET, 0, 1, kind, 0, 0, end, 0, 0), UNSET, 1);
            int[] setting = {INT, VAR, BITS, SET};
            for (int setter : setting) {
                checked("set by " + setter + " for " + kind, items(setter, 1, 3, kind, 0, 3, end, 0, 0), OK, -1);
            }
        }
        checked("an INT's v is without 8 and 16", items(INT, 1, 2 + LOW_FIRST + SIGNED, BOUND, 0, 2), OK, -1);
        checked("others set nothing", items(BYTE, 0, 0, SUM, 0, 0, ALIGN, 2, 0, BOUND, 1, 0), UNSET, 3);
        checked("the first of two", items(BOUND, 1, 5, BOUND, 1, 6), UNSET, 0);
        checked("set behind it", items(BOUND, 1, 5, SET, 1, 5), UNSET, 0);
        checked("REPEAT may do nothing", items(SET, 1, 0, REPEAT, 0, 0, SET, 1, 1, END, 0, 0, BOUND, 1, 1), UNSET, 4);
        checked("within REPEAT", items(SET, 1, 0, REPEAT, 0, 0, SET, 1, 1, BOUND, 1, 1, END, 0, 0), OK, -1);
        checked("in REPEAT's first round",
            items(SET, 1, 0, REPEAT, 0, 0, BOUND, 1, 1, SET, 1, 1, END, 0, 0), UNSET, 2);
        checked("set before REPEAT", items(SET, 1, 0, SET, 1, 1, REPEAT, 0, 0, END, 0, 0, BOUND, 1, 1), OK, -1);
        checked("BLOCK does its items", items(SET, 0, 0, BLOCK, 0, 0, SET, 1, 1, END, 0, 0, BOUND, 1, 1), OK, -1);
        checked("WHEN without ELSE", items(SET, 0, 0, WHEN, 0, 0, SET, 1, 1, END, 0, 0, BOUND, 1, 1), UNSET, 4);
        checked("WHEN, first part alone",
            items(SET, 0, 0, WHEN, 0, 0, SET, 1, 1, ELSE, 0, 0, END, 0, 0, BOUND, 1, 1), UNSET, 5);
        checked("WHEN, second part alone",
            items(SET, 0, 0, WHEN, 0, 0, ELSE, 0, 0, SET, 1, 1, END, 0, 0, BOUND, 1, 1), UNSET, 5);
        checked("WHEN, both parts",
            items(SET, 0, 0, WHEN, 0, 0, SET, 1, 1, ELSE, 0, 0, INT, 1, 1, END, 0, 0, BOUND, 1, 1), OK, -1);
        checked("the second part is not behind the first",
            items(SET, 0, 0, WHEN, 0, 0, SET, 1, 1, ELSE, 0, 0, BOUND, 1, 1, END, 0, 0), UNSET, 4);
        checked("a WHEN in a WHEN", items(SET, 0, 0, WHEN, 0, 0, WHEN, 0, 0, SET, 1, 1, ELSE, 0, 0, SET, 1, 1,
            END, 0, 0, ELSE, 0, 0, SET, 1, 1, END, 0, 0, BOUND, 1, 1), OK, -1);
        checked("ADD needs it too", items(ADD, 1, 0, ADD, 1, 0), UNSET, 0);
        checked("the number of a variable counts", items(SET, 1, 7, BOUND, 1, 6), UNSET, 1);
    }

    private static void compileKeepsFormat() {
        FormatWorkshop x = format(BYTE, 7, 0);
        x.put(END, 0, 0);
        checked("a fault in the items", x, STRUCTURE, 1);
        written("the format stays as it was", x, OK, -1, 1);
        made("the format stays as it was", x, 7);
        x.wipe();
        x.put(BOUND, 0, 0);
        checked("an unset variable", x, UNSET, 0);
        written("the format stays as it was, again", x, OK, -1, 1);
        made("the format stays as it was, again", x, 7);
        x = items(BYTE, 7, 0);
        x.compile();
        checked("the items stay", x, OK, -1);
        due.is("they are still there", x.put(BYTE, 8, 0), 2);
        due.is("a format with the new one", x.compile(), OK);
        written("a format with the new one", x, OK, -1, 2);
        x = items(SET, 0, 0, REPEAT, 0, 0, REPEAT, 0, 0, REPEAT, 0, 0, REPEAT, 0, 0);
        checked("four left open", x, STRUCTURE, 5);
        x.wipe();
        x.put(SET, 0, 0);
        x.put(REPEAT, 0, 0);
        x.put(END, 0, 0);
        checked("what was open is forgotten", x, OK, -1);
        x.wipe();
        x.put(BOUND, 0, 0);
        checked("what was set is forgotten", x, UNSET, 0);
        x = items(END, 0, 0);
        x.compile();
        due.is("no format: parse", x.parse(), NOT_READY);
        due.is("no format: write", x.write(), NOT_READY);
    }

    // Promise 5

    private static void feed() {
        FormatWorkshop x = format(INT, 4, 0, INT, 3, 0, INT, 2, 0, INT, 1, 0);
        due.is("feed 4", x.feed(0x81020384, 4), 4);
        due.is("feed 3", x.feed(0x81020384, 3), 7);
        due.is("feed 2", x.feed(0x81020384, 2), 9);
        due.is("feed 1", x.feed(0x81020384, 1), 10);
        due.is("feed 0", x.feed(1, 0), REFUSED);
        due.is("feed 5", x.feed(1, 5), REFUSED);
        due.is("feed -1", x.feed(1, -1), REFUSED);
        due.is("feed least", x.feed(1, LEAST), REFUSED);
        due.is("feed most", x.feed(1, MOST), REFUSED);
        parsed("fed", x, OK, -1, 10);
        listed("fed", x, 0x84030281, 0x840302, 0x8403, 0x84);
        due.is("the input is empty behind a parse", x.feed(1, 1), 1);
        for (int i = 2; i <= 62; i++) {
            due.is("feed many", x.feed(i, 1), i);
        }
        due.is("feed as far as it has less than 64", x.feed(0x01020304, 4), 64);
        due.is("feed when full", x.feed(1, 1), 64);
        due.is("feed wrongly when full", x.feed(1, 0), REFUSED);
        parsed("full", x, LEFT, 4, 10);
        FormatWorkshop all = format(SET, 31, 0, REPEAT, 0, 0, INT, 2, 1, END, 0, 0, BYTE, 4, 0, BYTE, 3, 0);
        for (int i = 0; i < 31; i++) {
            all.feed(i, 2);
        }
        due.is("feed past the end", all.feed(0x01020304, 4), 64);
        parsed("the lowest two of four", all, OK, -1, 64);
    }

    // Promise 6

    private static void parse() {
        FormatWorkshop x = items(INT, 1, 0);
        x.value(5);
        due.is("feed", x.feed(9, 1), 1);
        due.is("parse without a format", x.parse(), NOT_READY);
        listed("the list stays", x, 5);
        due.is("the input stays", x.feed(8, 1), 2);
        due.is("compile", x.compile(), OK);
        parsed("what is left", x, LEFT, 1, 1);
        listed("the list is replaced", x, 9);
        due.is("the input is empty behind a parse that ended early", x.feed(7, 1), 1);
        parsed("ordinary", x, OK, -1, 1);
        listed("ordinary", x, 7);
        parsed("no input", x, SHORT, 0, 0);
        listed("the list is replaced by none", x);
    }

    private static void parseInts() {
        FormatWorkshop x = format(INT, 2, 0, INT, 2, LOW_FIRST, INT, 2, SIGNED, INT, 2, SIGNED + LOW_FIRST,
            INT, 3, 1, INT, 3, 1 + SIGNED + LOW_FIRST, INT, 1, 2, INT, 1, 2 + SIGNED);
        parsed("ints", x, OK, -1, 16, 0x80, 1, 1, 0x80, 0x80, 1, 1, 0x80, 0xff, 0xff, 0xfe, 0, 0, 0x80, 255, 255);
        listed("ints", x, 32769, 32769, -32767, -32767, 0xfffffe, -8388608, 255, -1);
        FormatWorkshop four = format(INT, 4, 0, INT, 4, LOW_FIRST, INT, 4, SIGNED, INT, 4, LOW_FIRST + SIGNED);
        parsed("ints of four", four, OK, -1, 16, 0xff, 0, 0, 1, 2, 0, 0, 0x80, 0xff, 0, 0, 1, 2, 0, 0, 0x80);
        listed("ints of four", four, 0xff000001, 0x80000002, 0xff000001, 0x80000002);
        parsed("too short", four, SHORT, 1, 4, 1, 2, 3, 4, 5, 6, 7);
        listed("too short", four, 0x01020304);
    }

    private static void parseVars() {
        FormatWorkshop x = format(VAR, 0, 3);
        int[][] good = {{0}, {127}, {128, 1}, {255, 127}, {128, 128, 1}, {255, 255, 255, 127},
            {128, 128, 128, 128, 1}, {255, 255, 255, 255, 15}, {129, 128, 128, 128, 8}};
        int[] numbers = {0, 127, 128, 16383, 16384, 268435455, 268435456, -1, -2147483647};
        for (int i = 0; i < good.length; i++) {
            parsed("VAR " + i, x, OK, -1, good[i].length, good[i]);
            listed("VAR " + i, x, numbers[i]);
            due.is("VAR " + i + ": variable", x.variable(3), numbers[i]);
        }
        parsed("longer than it must be", x, PADDING, 0, 0, 128, 0);
        parsed("longer, with five", x, PADDING, 0, 0, 128, 128, 128, 128, 0);
        parsed("longer than five", x, PADDING, 0, 0, 128, 128, 128, 128, 128, 1);
        parsed("a fifth byte of 16", x, PADDING, 0, 0, 255, 255, 255, 255, 16);
        parsed("a fifth byte of 128 at the end", x, PADDING, 0, 0, 128, 128, 128, 128, 128);
        parsed("no byte", x, SHORT, 0, 0);
        parsed("ends too early", x, SHORT, 0, 0, 128, 128, 128, 128);
        listed("no value of it", x);
        FormatWorkshop inBlock = format(SET, 1, 0, BLOCK, 0, 0, VAR, 0, 1, END, 0, 0, BYTE, 1, 0);
        parsed("the BLOCK ends too early", inBlock, SHORT, 2, 0, 128, 1);
        parsed("it fits into the BLOCK", inBlock, OK, -1, 2, 127, 1);
    }

    private static void parseBits() {
        FormatWorkshop x = format(BITS, 3, 0, BITS, 1, 1, BITS, 11, 2, BITS, 1, 3);
        parsed("bits", x, OK, -1, 2, 0b10101100, 0b11110101);
        listed("bits", x, 0b101, 0, 0b11001111010, 1);
        parsed("a byte to begin is missing", x, SHORT, 2, 1, 0b10101100);
        listed("a byte to begin is missing", x, 5, 0);
        FormatWorkshop wide = format(BITS, 1, 0, BITS, 16, 1);
        parsed("sixteen over three bytes", wide, OK, -1, 3, 0xff, 0xff, 0x80);
        listed("sixteen over three bytes", wide, 1, 65535);
        parsed("bits left at the end", wide, PADDING, 2, 3, 0xff, 0xff, 0x81);
        listed("bits left at the end", wide, 1, 65535);
        parsed("PADDING before LEFT at the end", wide, PADDING, 2, 3, 0xff, 0xff, 0x81, 1);
        parsed("two bytes to begin, one there", wide, SHORT, 1, 1, 0xff, 0xff);
        FormatWorkshop sameByte = format(BITS, 3, 0, SET, 1, 1, ADD, 1, 1, BOUND, 2, 1, WHEN, 2, 1, END, 0, 0,
            REPEAT, 0, 1, BITS, 2, 2, END, 0, 0, BITS, 1, 3);
        parsed("9, 10, 11, REPEAT, WHEN and their END close nothing", sameByte, OK, -1, 1, 0b10111011);
        listed("9, 10, 11, REPEAT, WHEN and their END close nothing", sameByte, 5, 3, 1, 1);
        int[] closing = {INT, VAR, BYTE, BLOCK, SUM, ALIGN};
        for (int kind : closing) {
            FormatWorkshop closes = kind == BLOCK
                ? format(BITS, 3, 0, SET, 0, 1, BLOCK, 0, 1, END, 0, 0)
                : format(BITS, 3, 0, SET, 0, 1, kind, 2, 0);
            parsed("closing before " + kind, closes, PADDING, 2, 1, 0b10100001, 0, 0, 0);
            feedBytes(closes, 0b10100000);
            int answer = closes.parse();
            due.holds("zeros are passed over before " + kind, answer != PADDING);
        }
        FormatWorkshop block = format(SET, 1, 0, BLOCK, 0, 0, BITS, 4, 1, END, 0, 0, BITS, 4, 2);
        parsed("the END of a BLOCK closes", block, OK, -1, 2, 0xf0, 0xf0);
        parsed("the END of a BLOCK, not 0", block, PADDING, 3, 1, 0xf1, 0xf0);
        FormatWorkshop full = format(BITS, 8, 0, BYTE, 1, 0);
        parsed("no bits are left of a full byte", full, OK, -1, 2, 0xff, 1);
        FormatWorkshop seven = format(BITS, 7, 0);
        parsed("one bit is left, 0", seven, OK, -1, 1, 0xfe);
        parsed("one bit is left, 1", seven, PADDING, 1, 1, 0xff);
        FormatWorkshop just = format(BITS, 8, 0, BITS, 16, 1, BITS, 4, 2, BITS, 12, 3);
        parsed("just as many bytes as are begun", just, OK, -1, 5, 1, 2, 3, 0x45, 0x67);
        listed("just as many bytes as are begun", just, 1, 0x203, 4, 0x567);
    }

    private static void parseBytes() {
        FormatWorkshop x = format(BYTE, 0, 0, BYTE, 255, 0);
        parsed("BYTE", x, OK, -1, 2, 0, 255);
        parsed("another BYTE", x, MISMATCH, 1, 1, 0, 254);
        parsed("no BYTE", x, SHORT, 1, 1, 0);
        FormatWorkshop sum = format(INT, 1, 0, BYTE, 200, 0, SUM, -1, 0, SUM, LEAST, 0);
        parsed("SUM", sum, OK, -1, 4, 100, 200, 43, 87);
        parsed("another SUM", sum, MISMATCH, 3, 3, 100, 200, 43, 88);
        parsed("no SUM", sum, SHORT, 2, 2, 100, 200);
        FormatWorkshop begun = format(BITS, 2, 0, SUM, 3, 0);
        parsed("a byte begun counts in a SUM", begun, OK, -1, 2, 0xc0, 0xc3);
        FormatWorkshop inBlock = format(BYTE, 5, 0, SET, 1, 0, BLOCK, 0, 0, SUM, 0, 0, END, 0, 0);
        parsed("a SUM is from the beginning, not of the BLOCK", inBlock, OK, -1, 2, 5, 5);
        FormatWorkshop align = format(INT, 1, 0, ALIGN, 4, 0, ALIGN, 4, 0, ALIGN, 8, 0, BYTE, 1, 0);
        parsed("ALIGN", align, OK, -1, 9, 9, 0, 0, 0, 0, 0, 0, 0, 1);
        parsed("ALIGN not 0", align, PADDING, 1, 1, 9, 0, 0, 4, 0, 0, 0, 0, 1);
        parsed("ALIGN too short", align, SHORT, 1, 1, 9, 0, 0);
        parsed("ALIGN too short before not 0", align, SHORT, 1, 1, 9, 1, 0);
        FormatWorkshop three = format(BITS, 1, 0, ALIGN, 3, 0, BYTE, 1, 0, ALIGN, 5, 0, ALIGN, 7, 0);
        parsed("ALIGN counts a byte begun", three, OK, -1, 7, 0x80, 0, 0, 1, 0, 0, 0);
        FormatWorkshop block = format(BYTE, 1, 0, SET, 3, 0, BLOCK, 0, 0, ALIGN, 2, 0, BYTE, 2, 0, ALIGN, 4, 0, END, 0, 0);
        parsed("ALIGN is from the beginning, not of the BLOCK", block, OK, -1, 4, 1, 0, 2, 0);
    }

    private static void parseRepeatAndWhen() {
        FormatWorkshop x = format(INT, 1, SIGNED, REPEAT, 0, 0, INT, 1, 0, END, 0, 0, BYTE, 9, 0);
        parsed("REPEAT, its count set anew inside", x, OK, -1, 5, 3, 0, 7, 1, 9);
        listed("REPEAT", x, 3, 0, 7, 1);
        parsed("REPEAT 0", x, OK, -1, 2, 0, 9);
        parsed("REPEAT -1", x, RANGE, 1, 1, 255);
        parsed("REPEAT 33", x, RANGE, 1, 1, 33);
        parsed("REPEAT 32", x, SHORT, 2, 2, 32, 1);
        FormatWorkshop empty = format(SET, 32, 0, REPEAT, 0, 0, REPEAT, 0, 0, END, 0, 0, END, 0, 0, BYTE, 1, 0);
        parsed("REPEAT of no items", empty, OK, -1, 1, 1);
        FormatWorkshop nested = format(SET, 2, 0, REPEAT, 0, 0, INT, 1, 1, REPEAT, 0, 1, INT, 1, 2, END, 0, 0, END, 0, 0);
        parsed("REPEAT in REPEAT", nested, OK, -1, 5, 2, 5, 6, 1, 7);
        listed("REPEAT in REPEAT", nested, 2, 5, 6, 1, 7);
        FormatWorkshop when = format(INT, 1, SIGNED, WHEN, -2, 0, BYTE, 1, 0, ELSE, 0, 0, BYTE, 2, 0, BYTE, 3, 0,
            END, 0, 0, WHEN, 5, 0, BYTE, 4, 0, END, 0, 0);
        parsed("WHEN, first part", when, OK, -1, 2, 254, 1);
        parsed("WHEN, second part", when, OK, -1, 3, 6, 2, 3);
        parsed("WHEN without ELSE", when, OK, -1, 4, 5, 2, 3, 4);
        parsed("WHEN, first part, wrong", when, MISMATCH, 2, 1, 254, 2);
        parsed("WHEN, second part, wrong", when, MISMATCH, 5, 2, 5, 2, 2);
    }

    private static void parseBlocks() {
        FormatWorkshop x = format(INT, 1, SIGNED, BLOCK, 0, 0, INT, 1, 1, BLOCK, 0, 1, INT, 1, 0, END, 0, 0,
            INT, 1, 2, END, 0, 0, BYTE, 9, 0);
        parsed("BLOCK in BLOCK", x, OK, -1, 5, 3, 1, 7, 8, 9);
        listed("BLOCK in BLOCK", x, 3, 1, 7, 8);
        parsed("BLOCK below 0", x, RANGE, 1, 1, 255, 1);
        parsed("BLOCK longer than the input", x, SHORT, 1, 1, 3, 1, 2);
        parsed("BLOCK longer than its BLOCK", x, SHORT, 3, 2, 3, 3, 1, 1, 1, 1);
        parsed("inner BLOCK not taken up", x, LEFT, 5, 3, 4, 2, 7, 7, 8, 9);
        parsed("outer BLOCK not taken up", x, LEFT, 7, 4, 4, 1, 7, 8, 8, 9);
        parsed("inner BLOCK too short", x, SHORT, 4, 2, 3, 0, 7, 8, 9);
        parsed("outer BLOCK too short behind the inner", x, SHORT, 6, 3, 2, 1, 7, 8, 9);
        parsed("behind both", x, MISMATCH, 8, 4, 3, 1, 7, 8, 8);
        FormatWorkshop bits = format(SET, 1, 0, BLOCK, 0, 0, BITS, 7, 1, BITS, 2, 1, END, 0, 0);
        parsed("BITS end with the BLOCK", bits, SHORT, 3, 1, 2, 0);
        FormatWorkshop most = format(SET, MOST, 0, BYTE, 1, 0, BLOCK, 0, 0, END, 0, 0);
        parsed("the longest BLOCK", most, SHORT, 2, 1, 1);
        written("the longest BLOCK", most, SHORT, 2, 1);
        FormatWorkshop again = format(SET, 2, 1, SET, 2, 0, REPEAT, 0, 0, BLOCK, 0, 1, INT, 2, 2, END, 0, 0, END, 0, 0);
        parsed("a BLOCK in each round", again, OK, -1, 4, 0, 1, 0, 2);
    }

    private static void parseBoundSetAdd() {
        FormatWorkshop x = format(INT, 1, SIGNED, BOUND, 5, 0);
        parsed("BOUND 0", x, OK, -1, 1, 0);
        parsed("BOUND 5", x, OK, -1, 1, 5);
        parsed("BOUND 6", x, RANGE, 1, 1, 6);
        parsed("BOUND -1", x, RANGE, 1, 1, 255);
        parsed("BOUND below 0 never holds", format(SET, 0, 0, BOUND, -1, 0), RANGE, 1, 0);
        FormatWorkshop sums = format(SET, MOST, 0, ADD, 1, 0, SET, LEAST, 1, ADD, -1, 1, INT, 1, 2, ADD, -3, 2);
        parsed("sums wrap", sums, OK, -1, 1, 1);
        due.is("most + 1", sums.variable(0), LEAST);
        due.is("least - 1", sums.variable(1), MOST);
        due.is("1 - 3", sums.variable(2), -2);
        listed("ADD leaves the list", sums, 1);
    }

    private static void parseMany() {
        FormatWorkshop x = format(INT, 1, 0, INT, 1, 1, REPEAT, 0, 0, SET, 1, 2, WHEN, 1, 2, BOUND, 1, 2, ELSE, 0, 0,
            END, 0, 0, END, 0, 0, REPEAT, 0, 1, SET, 0, 2, SET, 0, 3, END, 0, 0, REPEAT, 0, 1, SET, 0, 2, SET, 0, 3,
            SET, 0, 4, SET, 0, 5, SET, 0, 6, SET, 0, 7, SET, 0, 2, END, 0, 0);
        // 5 steps, 3 in each round of the first REPEAT, and 9 for each round of the two others.
        parsed("32 rounds of three and 32 of nine", x, OK, -1, 2, 32, 32);
        FormatWorkshop steps = format(INT, 1, 0, INT, 1, 1, REPEAT, 0, 0, SET, 1, 2, SET, 1, 2, SET, 1, 2, SET, 1, 2,
            SET, 1, 2, SET, 1, 2, SET, 1, 2, SET, 1, 2, SET, 1, 2, SET, 1, 2, SET, 1, 2, SET, 1, 2, END, 0, 0,
            REPEAT, 0, 1, SET, 9, 3, END, 0, 0, BITS, 1, 4);
        // 4 steps, 12 in each round of the first REPEAT, one in each of the second, and one at the end.
        parsed("400 steps", steps, OK, -1, 3, 32, 11, 0x80);
        parsed("step 401 is the last item", steps, MANY, 19, 2, 32, 12, 0x80);
        parsed("step 401 is within a REPEAT", steps, MANY, 17, 2, 32, 14, 0x80);
        FormatWorkshop values = format(SET, 0, 1, INT, 1, 0, REPEAT, 0, 0, INT, 1, 1, END, 0, 0, INT, 1, 2, REPEAT, 0, 2,
            VAR, 0, 1, END, 0, 0, WHEN, 0, 1, BYTE, 3, 0, END, 0, 0, WHEN, 1, 1, VAR, 0, 0, END, 0, 0,
            WHEN, 2, 1, BITS, 1, 0, END, 0, 0, WHEN, 3, 1, INT, 1, 0, END, 0, 0);
        int[] bytes = new int[41];
        bytes[0] = 32;
        bytes[33] = 6;
        int[] places = {-1, 13, 16, 19};
        for (int last = 0; last <= 3; last++) {
            bytes[39] = last;
            bytes[40] = 3;
            feedBytes(values, bytes);
            due.is("a value more, kind of " + last, values.parse(), last == 0 ? OK : MANY);
            due.is("a value more, place", values.place(), places[last]);
            due.is("a value more, at", values.at(), last == 0 ? 41 : 40);
            due.is("a value more, values", values.values(), 40);
            due.is("a value more, the last", values.valueAt(39), last);
        }
    }

    private static void parseOrder() {
        FormatWorkshop repeat = format(SET, 33, 0, BITS, 1, 1, REPEAT, 0, 0, END, 0, 0, BYTE, 1, 0);
        parsed("RANGE of a REPEAT, no closing", repeat, RANGE, 2, 1, 0xff, 1);
        FormatWorkshop block = format(SET, -1, 0, BITS, 1, 1, BLOCK, 0, 0, END, 0, 0);
        parsed("PADDING before RANGE", block, PADDING, 2, 1, 0xff);
        parsed("RANGE behind closing", block, RANGE, 2, 1, 0x80);
        FormatWorkshop number = format(BITS, 1, 0, INT, 4, 0);
        parsed("PADDING before SHORT", number, PADDING, 1, 1, 0xff);
        parsed("SHORT behind closing", number, SHORT, 1, 1, 0x80);
        FormatWorkshop inBlock = format(SET, 2, 0, BLOCK, 0, 0, BITS, 1, 1, END, 0, 0);
        parsed("PADDING before LEFT at an END", inBlock, PADDING, 3, 1, 0xff, 0);
        parsed("LEFT behind closing at an END", inBlock, LEFT, 3, 1, 0x80, 0);
        FormatWorkshop many = format(SET, 20, 0, REPEAT, 0, 0, BITS, 1, 1, BITS, 1, 2, END, 0, 0, BITS, 1, 3);
        parsed("MANY before SHORT", many, MANY, 5, 5, 1, 2, 3, 4, 5);
        FormatWorkshop closed = format(SET, 13, 0, REPEAT, 0, 0, BITS, 1, 1, BITS, 1, 2, BITS, 1, 3, END, 0, 0,
            BITS, 1, 4, INT, 1, 5);
        parsed("MANY before PADDING", closed, MANY, 7, 5, 1, 2, 3, 4, 255);
    }

    // Promises 7, 8, 12 and 13

    private static void values() {
        FormatWorkshop x = new FormatWorkshop();
        due.is("value", x.value(LEAST), 1);
        due.is("value", x.value(MOST), 2);
        listed("two", x, LEAST, MOST);
        due.is("valueAt -1", x.valueAt(-1), 0);
        due.is("valueAt 2", x.valueAt(2), 0);
        due.is("valueAt 40", x.valueAt(40), 0);
        due.is("valueAt least", x.valueAt(LEAST), 0);
        due.is("valueAt most", x.valueAt(MOST), 0);
        due.is("drop", x.drop(), 2);
        listed("dropped", x);
        due.is("valueAt 0 of none", x.valueAt(0), 0);
        due.is("drop again", x.drop(), 0);
        for (int i = 1; i <= 40; i++) {
            due.is("value many", x.value(-i), i);
        }
        due.is("value 41", x.value(41), REFUSED);
        due.is("values 40", x.values(), 40);
        due.is("valueAt 39", x.valueAt(39), -40);
        due.is("drop 40", x.drop(), 40);
        due.is("value behind it", x.value(3), 1);
        FormatWorkshop parse = format(INT, 1, 0, INT, 1, 0);
        parsed("early", parse, SHORT, 1, 1, 7);
        listed("the values of a parse that ended early", parse, 7);
        due.is("value adds to them", parse.value(8), 2);
        written("a write takes them", parse, OK, -1, 2);
        listed("a write leaves them", parse, 7, 8);
        made("a write takes them", parse, 7, 8);
    }

    // Promise 9

    private static void write() {
        FormatWorkshop x = items(INT, 1, 0);
        x.value(5);
        due.is("write without a format", x.write(), NOT_READY);
        due.is("no bytes", x.bytes(), 0);
        x.compile();
        written("ordinary", x, OK, -1, 1);
        made("ordinary", x, 5);
        written("the list is left, so it can be done again", x, OK, -1, 1);
        list(x, 5, 6);
        written("values left", x, LEFT, 1, 1);
        made("values left", x, 5);
        list(x);
        written("no value", x, SHORT, 0, 0);
        made("no value", x);
        x.feed(1, 1);
        x.write();
        due.is("a write leaves the input", x.feed(2, 1), 2);
        FormatWorkshop all = format(INT, 1, 0, REPEAT, 0, 0, WHEN, 2, 0, BYTE, 1, 0, ELSE, 0, 0, BYTE, 2, 0, END, 0, 0,
            ADD, 1, 0, END, 0, 0, ALIGN, 4, 0, BLOCK, 0, 0, ALIGN, 8, 0, SUM, 1, 0, END, 0, 0);
        list(all, 2);
        written("all of it, its last BLOCK too short", all, SHORT, 12, 8);
        made("all of it, its last BLOCK too short", all, 2, 1, 2, 0, 0, 0, 0, 0);
        list(all, 3);
        written("all of it", all, LEFT, 13, 9);
        made("all of it", all, 3, 2, 2, 2, 0, 0, 0, 0, 10);
    }

    private static void writeInts() {
        FormatWorkshop x = format(INT, 2, 0, INT, 2, LOW_FIRST, INT, 3, SIGNED, INT, 3, SIGNED + LOW_FIRST,
            INT, 4, 0, INT, 4, SIGNED + LOW_FIRST);
        list(x, 0x0102, 0x0102, -2, -2, LEAST, 0x01020304);
        written("ints", x, OK, -1, 18);
        made("ints", x, 1, 2, 2, 1, 255, 255, 254, 254, 255, 255, 128, 0, 0, 0, 4, 3, 2, 1);
        for (int length = 1; length <= 3; length++) {
            int size = 1 << 8 * length;
            fits(INT, length, 0, 0, true);
            fits(INT, length, 0, size - 1, true);
            fits(INT, length, LOW_FIRST, size, false);
            fits(INT, length, 0, size, false);
            fits(INT, length, 0, -1, false);
            fits(INT, length, 0, LEAST, false);
            fits(INT, length, SIGNED, size / 2 - 1, true);
            fits(INT, length, SIGNED, -size / 2, true);
            fits(INT, length, SIGNED, size / 2, false);
            fits(INT, length, SIGNED, -size / 2 - 1, false);
            fits(INT, length, SIGNED, size - 1, false);
        }
        fits(INT, 4, 0, LEAST, true);
        fits(INT, 4, 0, MOST, true);
        fits(INT, 4, SIGNED, LEAST, true);
        fits(INT, 4, SIGNED, MOST, true);
    }

    private static void fits(int kind, int a, int b, int value, boolean so) {
        FormatWorkshop x = format(BYTE, 7, 0, kind, a, b);
        list(x, value);
        String what = kind + " " + a + " " + b + " of " + value;
        due.is("write " + what, x.write(), so ? OK : RANGE);
        due.is("place " + what, x.place(), so ? -1 : 1);
        due.is("variable " + what, x.variable(0), so ? value : 0);
        if (!so) {
            made(what, x, 7);
        }
    }

    private static void writeVarsAndBits() {
        FormatWorkshop x = format(VAR, 0, 0, VAR, 0, 0, VAR, 0, 0, VAR, 0, 0, VAR, 0, 0, VAR, 0, 0);
        list(x, 0, 127, 128, 16383, 16384, -1);
        written("VAR", x, OK, -1, 14);
        made("VAR", x, 0, 127, 128, 1, 255, 127, 128, 128, 1, 255, 255, 255, 255, 15);
        list(x, LEAST, MOST, 2097151, 2097152, 268435455, 268435456);
        written("VAR, long", x, OK, -1, 26);
        made("VAR, long", x, 128, 128, 128, 128, 8, 255, 255, 255, 255, 7, 255, 255, 127, 128, 128, 128, 1,
            255, 255, 255, 127, 128, 128, 128, 128, 1);
        FormatWorkshop bits = format(BITS, 3, 0, BITS, 7, 0, BYTE, 9, 0, BITS, 16, 0, BITS, 1, 0);
        list(bits, 5, 0b1100011, 0xabcd, 1);
        written("BITS", bits, OK, -1, 6);
        made("BITS", bits, 0b10111000, 0b11000000, 9, 0xab, 0xcd, 0x80);
        for (int length = 1; length <= 16; length++) {
            fits(BITS, length, 0, 0, true);
            fits(BITS, length, 0, (1 << length) - 1, true);
            fits(BITS, length, 0, 1 << length, false);
            fits(BITS, length, 0, -1, false);
            fits(BITS, length, 0, LEAST, false);
        }
        FormatWorkshop closing = format(BITS, 2, 0, SUM, 1, 0, BITS, 2, 0, ALIGN, 4, 0, BITS, 2, 0, SET, 1, 1,
            BLOCK, 0, 1, BITS, 1, 0, END, 0, 0, BITS, 1, 0);
        list(closing, 3, 3, 3, 1, 1);
        written("closing", closing, OK, -1, 7);
        made("closing", closing, 0xc0, 0xc1, 0xc0, 0, 0xc0, 0x80, 0x80);
    }

    private static void writeShort() {
        FormatWorkshop full = format(SET, 31, 0, REPEAT, 0, 0, BYTE, 1, 0, BYTE, 2, 0, END, 0, 0, INT, 1, 1,
            WHEN, 0, 1, INT, 2, 2, END, 0, 0, WHEN, 1, 1, VAR, 0, 2, END, 0, 0, WHEN, 2, 1, BITS, 9, 2, END, 0, 0,
            WHEN, 3, 1, ALIGN, 5, 0, END, 0, 0, WHEN, 4, 1, BYTE, 1, 0, BYTE, 1, 0, END, 0, 0,
            WHEN, 5, 1, BYTE, 1, 0, SUM, 1, 0, END, 0, 0, WHEN, 6, 1, BLOCK, 0, 1, END, 0, 0, END, 0, 0);
        int[] room = {7, 10, 13, 16, 20, 24, 27};
        int[] at = {63, 63, 63, 63, 64, 64, 63};
        for (int way = 0; way <= 6; way++) {
            list(full, way, 200);
            written("no room, way " + way, full, SHORT, room[way], at[way]);
            due.is("no room, bytes", full.bytes(), at[way]);
            due.is("no room, variable", full.variable(2), 0);
        }
        list(full, 0, 65536);
        written("RANGE before no room", full, RANGE, 7, 63);
        list(full, 1, 127);
        written("just room", full, OK, -1, 64);
        due.is("just room, bytes", full.bytes(), 64);
        due.is("just room, the last", full.byteAt(63), 127);
        due.is("just room, behind the last", full.byteAt(64), -1);
        list(full, 2);
        written("no value", full, SHORT, 13, 63);
        FormatWorkshop block = format(INT, 1, 0, BLOCK, 0, 0, INT, 2, 1, END, 0, 0, INT, 1, 2);
        list(block, 1, 5, 6);
        written("no room in the BLOCK", block, SHORT, 2, 1);
        list(block, 2, 5, 6);
        written("room in the BLOCK, and behind it", block, OK, -1, 4);
        made("room in the BLOCK, and behind it", block, 2, 0, 5, 6);
        list(block, 3, 5, 6);
        written("too much room in the BLOCK", block, LEFT, 3, 3);
        list(block, 63);
        written("a BLOCK of all that is allowed", block, SHORT, 2, 1);
        list(block, 64, 5);
        written("a BLOCK of more than is allowed", block, SHORT, 1, 1);
        FormatWorkshop below = format(SET, -1, 0, BLOCK, 0, 0, END, 0, 0);
        written("a BLOCK below 0", below, RANGE, 1, 0);
        FormatWorkshop rounds = format(SET, 33, 0, REPEAT, 0, 0, END, 0, 0);
        written("33 rounds", rounds, RANGE, 1, 0);
        FormatWorkshop bound = format(INT, 1, 0, BOUND, 4, 0, BYTE, 1, 0);
        list(bound, 5);
        written("BOUND", bound, RANGE, 1, 1);
        list(bound, 4);
        written("BOUND holds", bound, OK, -1, 2);
    }

    private static void writeEnds() {
        FormatWorkshop x = format(BITS, 3, 0, BITS, 3, 1, INT, 1, 2);
        list(x, 7);
        written("within a byte", x, SHORT, 1, 1);
        made("a byte begun is not to be seen", x);
        list(x, 7, 8);
        written("within a byte, RANGE", x, RANGE, 1, 1);
        made("within a byte, RANGE", x);
        list(x, 7, 7);
        written("the item closes the byte before it ends the write", x, SHORT, 2, 1);
        made("the item closes the byte before it ends the write", x, 0xfc);
        FormatWorkshop seven = format(BITS, 7, 0, BITS, 1, 0);
        list(seven, 1);
        written("with one bit left", seven, SHORT, 1, 1);
        made("with one bit left", seven);
        list(seven, 1, 1);
        written("with no bit left", seven, OK, -1, 1);
        made("with no bit left", seven, 3);
        FormatWorkshop again = format(INT, 1, 0, WHEN, 255, 0, INT, 3, 1, ELSE, 0, 0, BITS, 1, 1, ALIGN, 4, 0, END, 0, 0);
        list(again, 255, 0xffffff);
        written("a first write", again, OK, -1, 4);
        made("a first write", again, 255, 255, 255, 255);
        list(again, 0, 0);
        written("nothing of it is in the second", again, OK, -1, 4);
        made("nothing of it is in the second", again, 0, 0, 0, 0);
        FormatWorkshop left = format(BITS, 3, 0);
        list(left, 7, 7);
        written("the end closes the byte before LEFT", left, LEFT, 1, 1);
        made("the end closes the byte before LEFT", left, 0xe0);
        FormatWorkshop many = format(BITS, 9, 1, SET, 32, 0, REPEAT, 0, 0, SET, 1, 2, SET, 1, 2, SET, 1, 2, SET, 1, 2,
            SET, 1, 2, SET, 1, 2, SET, 1, 2, SET, 1, 2, SET, 1, 2, SET, 1, 2, SET, 1, 2, SET, 1, 2, END, 0, 0,
            SET, 13, 0, REPEAT, 0, 0, BYTE, 1, 0, END, 0, 0);
        list(many, 257);
        // 3 + 384 + 2 steps, so that the twelfth BYTE is one too many.
        written("MANY in a write", many, MANY, 18, 13);
        due.is("MANY in a write, bytes", many.bytes(), 13);
        FormatWorkshop begun = format(BITS, 9, 1, SET, 32, 0, REPEAT, 0, 0, SET, 1, 2, SET, 1, 2, SET, 1, 2, SET, 1, 2,
            SET, 1, 2, SET, 1, 2, SET, 1, 2, SET, 1, 2, SET, 1, 2, SET, 1, 2, SET, 1, 2, SET, 1, 2, SET, 1, 2,
            END, 0, 0, BYTE, 1, 0);
        list(begun, 257);
        written("MANY comes before closing", begun, MANY, 10, 2);
        made("MANY comes before closing", begun, 0x80);
        FormatWorkshop forty = format(SET, 20, 0, REPEAT, 0, 0, INT, 1, 1, INT, 1, 2, END, 0, 0, INT, 1, 3);
        for (int i = 0; i < 40; i++) {
            forty.value(i);
        }
        written("forty values are not MANY in a write", forty, SHORT, 5, 40);
        FormatWorkshop block = format(SET, 2, 0, BLOCK, 0, 0, BITS, 1, 1, END, 0, 0);
        list(block, 1);
        written("the END closes the byte before LEFT", block, LEFT, 3, 1);
        made("the END closes the byte before LEFT", block, 0x80);
    }

    // Promise 10

    private static void place() {
        FormatWorkshop x = items(END, 0, 0);
        x.compile();
        due.is("place of a compile", x.place(), 0);
        due.is("parse", x.parse(), NOT_READY);
        due.is("NOT_READY does not count, parse", x.place(), 0);
        due.is("write", x.write(), NOT_READY);
        due.is("NOT_READY does not count, write", x.place(), 0);
        x.wipe();
        x.put(INT, 1, 0);
        due.is("put and wipe do not count", x.place(), 0);
        x.compile();
        due.is("OK", x.place(), -1);
        parsed("the number of items", x, LEFT, 1, 1, 1, 2);
        x.feed(1, 1);
        x.drop();
        x.value(300);
        x.variable(0);
        due.is("other calls do not count", x.place(), 1);
        written("of a write", x, RANGE, 0, 0);
        x.put(END, 0, 0);
        x.put(END, 0, 0);
        checked("of a compile again", x, STRUCTURE, 1);
        parsed("the number of the format's items, not of those put", x, LEFT, 1, 1, 1);
        parsed("OK again", x, OK, -1, 1, 1);
    }

    // Promise 11

    private static void at() {
        FormatWorkshop x = format(INT, 2, 0, BITS, 9, 1, BITS, 3, 2, BYTE, 1, 0);
        parsed("OK: in all", x, OK, -1, 5, 0, 0, 255, 0x80, 1);
        x.compile();
        due.is("compile does not change it", x.at(), 5);
        x.put(END, 0, 0);
        x.compile();
        due.is("nor does one that is not OK", x.at(), 5);
        parsed("a byte begun counts", x, MISMATCH, 3, 4, 0, 0, 255, 0x80, 2);
        list(x, 1, 2, 8);
        written("a byte begun counts in a write", x, RANGE, 2, 4);
        due.is("but is not to be seen", x.bytes(), 3);
        parsed("nothing", x, SHORT, 0, 0);
        FormatWorkshop end = format(SET, 3, 0, BLOCK, 0, 0, BYTE, 1, 0, VAR, 0, 1, END, 0, 0);
        parsed("to a VAR: its first byte", end, SHORT, 3, 1, 1, 128, 128, 1);
        parsed("to an END", end, LEFT, 4, 2, 1, 1, 1);
    }

    // Promises 14 and 15

    private static void bytes() {
        FormatWorkshop x = format(INT, 1, 0, INT, 1, 1);
        due.is("no write yet: bytes", x.bytes(), 0);
        due.is("no write yet: byteAt", x.byteAt(0), -1);
        list(x, 255, 128);
        x.write();
        made("0 .. 255", x, 255, 128);
        due.is("byteAt -1", x.byteAt(-1), -1);
        due.is("byteAt 64", x.byteAt(64), -1);
        due.is("byteAt least", x.byteAt(LEAST), -1);
        due.is("byteAt most", x.byteAt(MOST), -1);
        parsed("a parse", x, SHORT, 1, 1, 9);
        made("a parse leaves the bytes", x, 255, 128);
        x.compile();
        x.wipe();
        x.drop();
        made("other calls leave them", x, 255, 128);
        list(x, 3);
        x.write();
        made("a write that ended early replaces them", x, 3);
    }

    // Promise 16

    private static void variable() {
        FormatWorkshop x = format(INT, 1, SIGNED, VAR, 0, 1, BITS, 4, 2, SET, -5, 3, SET, 1, 7, ADD, 2, 7, INT, 1, 0,
            INT, 2, 6);
        parsed("variables", x, OK, -1, 6, 255, 127, 0xf0, 200, 1, 2);
        int[] wanted = {200, 127, 15, -5, 0, 0, 258, 3};
        for (int v = 0; v < 8; v++) {
            due.is("variable " + v, x.variable(v), wanted[v]);
        }
        due.is("variable -1", x.variable(-1), 0);
        due.is("variable 8", x.variable(8), 0);
        due.is("variable least", x.variable(LEAST), 0);
        due.is("variable most", x.variable(MOST), 0);
        x.compile();
        x.drop();
        due.is("other calls leave them", x.variable(6), 258);
        parsed("ended early", x, SHORT, 1, 1, 254);
        int[] early = {-2, 0, 0, 0, 0, 0, 0, 0};
        for (int v = 0; v < 8; v++) {
            due.is("0 at the beginning, variable " + v, x.variable(v), early[v]);
        }
        parsed("ended at once", x, SHORT, 0, 0);
        due.is("0 at the beginning of each parse", x.variable(0), 0);
        list(x, -3, 9, 15, 256);
        written("of a write", x, RANGE, 6, 3);
        int[] wrote = {-3, 9, 15, -5, 0, 0, 0, 3};
        for (int v = 0; v < 8; v++) {
            due.is("of a write, variable " + v, x.variable(v), wrote[v]);
        }
    }
}
