/** The sentences of the table of the items and of CLOSING the bits, for promise 6, parse, and promise 9, write. */
public final class ItemSentencesTest extends Sentences {
    private static final String BOTH = "promises 6 and 9";

    public static void main(String[] args) {
        numberedFromNought();
        variablesBeginAtNought();
        sumsWrapInAdd();
        sumsWrapInSum();
        intLengths();
        intByteOrder();
        intSign();
        intFourBytes();
        intVariable();
        varGroups();
        varAsFewAsCanBe();
        bitsLengths();
        bitsHighestFirst();
        bitsThatAreLeft();
        byteValues();
        repeatCounts();
        repeatWhenComeTo();
        repeatWithin();
        whenNumbers();
        whenParts();
        blockLengths();
        blockWhenComeTo();
        blockWithin();
        sumModulo();
        sumFromTheBeginning();
        sumFull();
        alignEvery();
        alignFromTheBeginning();
        alignOverOldBytes();
        boundEdges();
        setAndAdd();
        notLookedAt();
        closingBeforeItems();
        closingBeforeEndOfBlock();
        closingAtTheEnd();
        closingNotElsewhere();
        closingNothingLeft();
        closingMakesTheByte();
        end();
    }

    private static int[] bytesOf(long number, int length, boolean lowFirst) {
        int[] bytes = new int[length];
        for (int i = 0; i < length; i++) {
            bytes[lowFirst ? i : length - 1 - i] = (int) (number >> 8 * i & 255);
        }
        return bytes;
    }

    private static void numberedFromNought() {
        sentence(BOTH, "ITEMS (kind, a, b), numbered from 0");
        bothEnd(format(INT, 1, 0), SHORT, 0, 0, row());
        bothEnd(format(SET, 1, 0, INT, 1, 0), SHORT, 1, 0, row());
        bothEnd(format(join(times(39, SET, 1, 0), row(INT, 1, 0))), SHORT, 39, 0, row());
    }

    private static void variablesBeginAtNought() {
        sentence(BOTH, "the VARIABLES 0 .. 7 are ints, 0 at the beginning of a parse or write");
        Bench x = format(INT, 1, 0, SET, 1, 1, SET, 2, 2, SET, 3, 3, SET, 4, 4, SET, 5, 5, SET, 6, 6, SET, 7, 7);
        for (int way = 0; way < 4; way++) {
            parsed(x, OK, NONE, 1, 9);
            is(x.variable(0), 9);
            is(x.variable(7), 7);
            list(x);
            is(way % 2 == 0 ? x.parse() : x.write(), SHORT);
            for (int v = 0; v < 8; v++) {
                is(x.variable(v), 0);
            }
        }
        x.wipe();
        x.compile();
        parsed(x, OK, NONE, 0);
        is(x.variable(0), 0);
    }

    private static void sumsWrapInAdd() {
        sentence(BOTH + ", ADD", "sums of ints wrap");
        int[][] sums = {{MOST, 1, LEAST}, {LEAST, -1, MOST}, {LEAST, LEAST, 0}, {MOST, MOST, -2}, {-1, 1, 0},
            {0, LEAST, LEAST}, {MOST, 0, MOST}, {MOST - 1, 1, MOST}, {LEAST + 1, -1, LEAST}, {MOST, LEAST, -1}};
        for (int[] sum : sums) {
            Bench x = format(INT, 4, 3, ADD, sum[1], 3, WHEN, sum[2], 3, BYTE, 7, 0, END, 0, 0);
            bothWays(x, join(bytesOf(sum[0], 4, false), row(7)), sum[0]);
            is(x.variable(3), sum[2]);
            parsed(x, OK, NONE, 5, join(bytesOf(sum[0], 4, false), row(7)));
            is(x.variable(3), sum[2]);
        }
    }

    private static void sumsWrapInSum() {
        sentence(BOTH + ", SUM", "sums of ints wrap");
        bothWays(format(BYTE, 255, 0, SUM, MOST, 0), row(255, 254));
        bothWays(format(BYTE, 1, 0, SUM, MOST, 0), row(1, 0));
        bothWays(format(BYTE, 255, 0, SUM, LEAST, 0), row(255, 255));
        bothWays(format(BYTE, 255, 0, SUM, -1, 0), row(255, 254));
        bothWays(format(BYTE, 255, 0, SUM, MOST - 254, 0), row(255, 0));
        bothWays(format(BYTE, 255, 0, SUM, MOST - 255, 0), row(255, 255));
    }

    // 0 INT

    private static final String INT_LENGTH = "a number of a bytes (1 .. 4)";

    private static void intLengths() {
        sentence(BOTH, INT_LENGTH);
        for (int length = 1; length <= 4; length++) {
            long top = 1L << 8 * length;
            long[] numbers = {0, 1, top / 2 - 1, top / 2, top - 2, top - 1};
            for (long number : numbers) {
                bothWays(format(INT, length, 0), bytesOf(number, length, false), (int) number);
            }
            parsed(format(INT, length, 0), LEFT, 1, length, times(length + 1, 0));
            parsed(format(INT, length, 0), SHORT, 0, 0, times(length - 1, 0));
        }
    }

    private static void intByteOrder() {
        sentence(BOTH, "+ 8 if its lowest byte comes first (else the highest)");
        bothWays(format(INT, 1, 0), row(0x81), 0x81);
        bothWays(format(INT, 1, LOW_FIRST), row(0x81), 0x81);
        bothWays(format(INT, 2, 0), row(0x81, 2), 0x8102);
        bothWays(format(INT, 2, LOW_FIRST), row(0x81, 2), 0x0281);
        bothWays(format(INT, 3, 0), row(0x81, 2, 3), 0x810203);
        bothWays(format(INT, 3, LOW_FIRST), row(0x81, 2, 3), 0x030281);
        bothWays(format(INT, 4, 0), row(0x81, 2, 3, 4), 0x81020304);
        bothWays(format(INT, 4, LOW_FIRST), row(1, 2, 3, 0x84), 0x84030201);
        bothWays(format(INT, 2, SIGNED), row(0x81, 2), 0xffff8102);
        bothWays(format(INT, 2, SIGNED + LOW_FIRST), row(2, 0x81), 0xffff8102);
        bothWays(format(INT, 3, SIGNED + LOW_FIRST), row(3, 2, 0x81), 0xff810203);
    }

    private static void intSign() {
        sentence(BOTH, "+ 16 if it has a sign.");
        for (int length = 1; length <= 4; length++) {
            long half = 1L << 8 * length - 1;
            long[] numbers = {0, 1, half - 2, half - 1, -1, -2, -half, -half + 1};
            for (long number : numbers) {
                bothWays(format(INT, length, SIGNED), bytesOf(number, length, false), (int) number);
                bothWays(format(INT, length, SIGNED + LOW_FIRST), bytesOf(number, length, true), (int) number);
            }
        }
    }

    private static void intFourBytes() {
        sentence(BOTH, "With four bytes it is an int either way");
        int[] numbers = {0, 1, -1, LEAST, LEAST + 1, MOST, MOST - 1};
        for (int number : numbers) {
            for (int flags = 0; flags <= 24; flags += 8) {
                boolean lowFirst = flags % 16 == 8;
                bothWays(format(INT, 4, flags), bytesOf(number, 4, lowFirst), number);
            }
        }
    }

    private static void intVariable() {
        sentence(BOTH + ", each b", "b = v, + 8 if its lowest byte comes first (else the highest), + 16 if it has a sign.");
        for (int b = 0; b < 32; b++) {
            boolean lowFirst = b % 16 >= 8;
            int number = b >= 16 ? -2 : 0xfffe;
            Bench x = format(INT, 2, b);
            bothWays(x, bytesOf(number, 2, lowFirst), number);
            for (int v = 0; v < 8; v++) {
                is(x.variable(v), v == b % 8 ? number : 0);
            }
        }
    }

    // 1 VAR

    private static final int[][] VARS = {{0}, {1}, {126}, {127}, {128, 1}, {129, 1}, {254, 127}, {255, 127},
        {128, 128, 1}, {255, 255, 127}, {128, 128, 128, 1}, {255, 255, 255, 127}, {128, 128, 128, 128, 1},
        {255, 255, 255, 255, 7}, {128, 128, 128, 128, 8}, {255, 255, 255, 255, 15}, {254, 255, 255, 255, 15},
        {133, 134, 135, 136, 9}};
    private static final int[] VAR_NUMBERS = {0, 1, 126, 127, 128, 129, 16382, 16383, 16384, 2097151, 2097152, 268435455,
        268435456, MOST, LEAST, -1, -2, 5 + (6 << 7) + (7 << 14) + (8 << 21) + (9 << 28)};

    private static void varGroups() {
        sentence(BOTH, "a number, taken as 32 bits without sign, in groups of 7 bits, the lowest group first, one in each byte,"
            + " bit 7 of a byte set if another one follows");
        for (int i = 0; i < VARS.length; i++) {
            Bench x = format(VAR, 0, i % 8);
            bothWays(x, VARS[i], VAR_NUMBERS[i]);
            for (int v = 0; v < 8; v++) {
                is(x.variable(v), v == i % 8 ? VAR_NUMBERS[i] : 0);
            }
        }
    }

    private static void varAsFewAsCanBe() {
        sentence(BOTH, "as few bytes as can be");
        for (int bits = 0; bits < 32; bits++) {
            int least = 1 << bits;
            int[] numbers = {least, least - 1 + least};
            for (int number : numbers) {
                Bench x = format(VAR, 0, 0);
                written(x, OK, NONE, bits / 7 + 1, number);
                is(x.bytes(), bits / 7 + 1);
            }
        }
        written(format(VAR, 0, 0), OK, NONE, 1, 0);
    }

    // 2 BITS

    private static void bitsLengths() {
        sentence(BOTH, "a number of a bits (1 .. 16) without sign, b = v");
        for (int bits = 1; bits <= 16; bits++) {
            int most = (1 << bits) - 1;
            int[] numbers = {0, 1, most / 2, most / 2 + 1, most - 1, most};
            int length = bits > 8 ? 2 : 1;
            for (int number : numbers) {
                Bench x = format(BITS, bits, bits % 8);
                bothWays(x, bytesOf((long) number << 8 * length - bits, length, false), number);
                for (int v = 0; v < 8; v++) {
                    is(x.variable(v), v == bits % 8 ? number : 0);
                }
            }
        }
    }

    private static void bitsHighestFirst() {
        sentence(BOTH, "the highest bit first. Bits come from bytes, the highest bit of a byte first");
        bothWays(format(BITS, 3, 0, BITS, 5, 1), row(0b10110001), 0b101, 0b10001);
        bothWays(format(BITS, 12, 0, BITS, 4, 1), row(0xab, 0xcd), 0xabc, 0xd);
        bothWays(format(BITS, 16, 0), row(0x80, 0x01), 0x8001);
        bothWays(format(BITS, 1, 0), row(0x80), 1);
        bothWays(format(times(8, BITS, 1, 0)), row(0b10010110), 1, 0, 0, 1, 0, 1, 1, 0);
    }

    private static void bitsThatAreLeft() {
        sentence(BOTH, "of which the next BITS takes those that are left");
        for (int first = 1; first <= 16; first++) {
            for (int second = 1; second <= 16; second++) {
                int used = first + second;
                int length = (used + 7) / 8;
                int one = (1 << first) - 1 & 0x9999;
                int two = (1 << second) - 1 & 0x6d6d | 1;
                long all = ((long) one << second | two) << 8 * length - used;
                bothWays(format(BITS, first, 0, BITS, second, 1), bytesOf(all, length, false), one, two);
            }
        }
    }

    // 3 BYTE

    private static void byteValues() {
        sentence(BOTH, "the byte a (0 .. 255)");
        int[] bytes = {0, 1, 127, 128, 254, 255};
        for (int a : bytes) {
            Bench x = format(BYTE, a, 0);
            bothWays(x, row(a));
            parsed(x, MISMATCH, 0, 0, a ^ 1);
            parsed(x, MISMATCH, 0, 0, a ^ 128);
        }
    }

    // 4 REPEAT

    private static void repeatCounts() {
        sentence(BOTH, "the items up to its END, v times");
        for (int count = 0; count <= 32; count++) {
            Bench x = format(INT, 1, 5, REPEAT, 0, 5, BYTE, 9, 0, END, 0, 0, BYTE, 8, 0);
            bothWays(x, join(row(count), times(count, 9), row(8)), count);
        }
        bothWays(format(SET, 32, 0, REPEAT, 0, 0, END, 0, 0, BYTE, 8, 0), row(8));
        bothWays(format(SET, 0, 0, REPEAT, 0, 0, END, 0, 0, BYTE, 8, 0), row(8));
        bothWays(format(SET, 0, 0, REPEAT, 0, 0, BYTE, 1, 0, WHEN, 0, 0, ELSE, 0, 0, END, 0, 0, END, 0, 0), row());
    }

    private static void repeatWhenComeTo() {
        sentence(BOTH + ", REPEAT", "(what v is when it is come to)");
        int[] inside = {0, 1, 32, 33, 200};
        for (int changed : inside) {
            Bench x = format(INT, 1, 0, REPEAT, 0, 0, INT, 1, 0, END, 0, 0, BYTE, 8, 0);
            bothWays(x, row(3, changed, changed, changed, 8), 3, changed, changed, changed);
        }
        bothWays(format(SET, 1, 0, ADD, 1, 0, REPEAT, 0, 0, ADD, 5, 0, BYTE, 1, 0, END, 0, 0), row(1, 1));
    }

    private static void repeatWithin() {
        sentence(BOTH + ", REPEAT within REPEAT", "(what v is when it is come to)");
        Bench x = format(SET, 3, 0, REPEAT, 0, 0, INT, 1, 1, REPEAT, 0, 1, BYTE, 7, 0, END, 0, 0, END, 0, 0);
        bothWays(x, row(2, 7, 7, 0, 1, 7), 2, 0, 1);
        x = format(SET, 2, 0, REPEAT, 0, 0, REPEAT, 0, 0, REPEAT, 0, 0, REPEAT, 0, 0, BYTE, 7, 0, END, 0, 0, END, 0, 0,
            END, 0, 0, BYTE, 5, 0, END, 0, 0);
        bothWays(x, times(2, 7, 7, 7, 7, 7, 7, 7, 7, 5));
    }

    // 5 WHEN

    private static void whenNumbers() {
        sentence(BOTH, "the items up to ELSE (END) if v is a");
        int[] numbers = {LEAST, LEAST + 1, -256, -1, 0, 1, 255, 256, MOST - 1, MOST};
        for (int a : numbers) {
            Bench x = format(INT, 4, 0, WHEN, a, 0, BYTE, 1, 0, ELSE, 0, 0, BYTE, 2, 0, END, 0, 0);
            bothWays(x, join(bytesOf(a, 4, false), row(1)), a);
            for (int other : new int[] {a + 1, a - 1, a ^ 256, a ^ LEAST}) {
                bothWays(format(INT, 4, 0, WHEN, a, 0, BYTE, 1, 0, ELSE, 0, 0, BYTE, 2, 0, END, 0, 0),
                    join(bytesOf(other, 4, false), row(2)), other);
            }
        }
    }

    private static void whenParts() {
        sentence(BOTH, "else those behind ELSE");
        Bench without = format(INT, 1, 0, WHEN, 1, 0, BYTE, 5, 0, END, 0, 0, BYTE, 6, 0);
        bothWays(without, row(1, 5, 6), 1);
        bothWays(without, row(0, 6), 0);
        Bench emptyFirst = format(INT, 1, 0, WHEN, 1, 0, ELSE, 0, 0, BYTE, 5, 0, END, 0, 0, BYTE, 6, 0);
        bothWays(emptyFirst, row(1, 6), 1);
        bothWays(emptyFirst, row(0, 5, 6), 0);
        Bench emptySecond = format(INT, 1, 0, WHEN, 1, 0, BYTE, 5, 0, ELSE, 0, 0, END, 0, 0, BYTE, 6, 0);
        bothWays(emptySecond, row(1, 5, 6), 1);
        bothWays(emptySecond, row(0, 6), 0);
        Bench changed = format(INT, 1, 0, WHEN, 1, 0, SET, 2, 0, BYTE, 5, 0, ELSE, 0, 0, SET, 1, 0, BYTE, 4, 0, END, 0, 0);
        bothWays(changed, row(1, 5), 1);
        bothWays(changed, row(2, 4), 2);
        Bench within = format(INT, 1, 0, WHEN, 1, 0, BYTE, 5, 0, ELSE, 0, 0, WHEN, 2, 0, BYTE, 6, 0, ELSE, 0, 0,
            BYTE, 7, 0, END, 0, 0, BYTE, 8, 0, END, 0, 0);
        bothWays(within, row(1, 5), 1);
        bothWays(within, row(2, 6, 8), 2);
        bothWays(within, row(3, 7, 8), 3);
    }

    // 6 BLOCK

    private static void blockLengths() {
        sentence(BOTH, "its items, which must take up exactly v bytes");
        for (int length = 0; length <= 3; length++) {
            Bench x = format(INT, 1, 0, INT, 1, 1, BLOCK, 0, 0, REPEAT, 0, 1, BYTE, 9, 0, END, 0, 0, END, 0, 0, BYTE, 8, 0);
            bothWays(x, join(row(length, length), times(length, 9), row(8)), length, length);
            int[] more = join(row(length, length + 1), times(length + 1, 9), row(8));
            bothEnd(x, SHORT, 4, 2 + length, more, length, length + 1);
            int[] less = join(row(length + 1, length), times(length, 9), row(8));
            bothEnd(x, LEFT, 6, 2 + length, less, length + 1, length);
        }
        bothWays(format(SET, 0, 0, BLOCK, 0, 0, END, 0, 0), row());
        int[] all = join(row(SET, 64, 2, BLOCK, 0, 2), ones(64), row(END, 0, 0));
        bothWays(format(all), times(64, 1));
    }

    private static void blockWhenComeTo() {
        sentence(BOTH + ", BLOCK", "(what v is when it is come to)");
        int[] inside = {0, 1, 3, 255};
        for (int changed : inside) {
            Bench x = format(INT, 1, 0, BLOCK, 0, 0, INT, 1, 0, INT, 1, 1, END, 0, 0, BYTE, 8, 0);
            bothWays(x, row(2, changed, 5, 8), 2, changed, 5);
        }
    }

    private static void blockWithin() {
        sentence(BOTH + ", BLOCK within BLOCK", "its items, which must take up exactly v bytes");
        Bench x = format(INT, 1, 0, INT, 1, 1, BLOCK, 0, 0, BLOCK, 0, 1, ALIGN, 4, 0, END, 0, 0, END, 0, 0, BYTE, 8, 0);
        bothWays(x, row(2, 2, 0, 0, 8), 2, 2);
        bothEnd(x, SHORT, 3, 2, row(2, 3, 0, 0, 0, 0), 2, 3);
        bothEnd(x, LEFT, 6, 4, row(3, 2, 0, 0, 0, 0), 3, 2);
        bothEnd(x, LEFT, 5, 4, row(3, 3, 0, 0, 0, 0), 3, 3);
        bothEnd(x, SHORT, 4, 2, row(2, 1, 0, 0, 0, 0), 2, 1);
        bothEnd(x, SHORT, 3, 2, row(0, 1, 0, 0, 0, 0), 0, 1);
        x = format(SET, 1, 0, SET, 2, 1, REPEAT, 0, 1, BLOCK, 0, 0, BYTE, 4, 0, END, 0, 0, BLOCK, 0, 1, BYTE, 5, 0,
            BLOCK, 0, 0, BYTE, 6, 0, END, 0, 0, END, 0, 0, END, 0, 0);
        bothWays(x, row(4, 5, 6, 4, 5, 6));
    }

    // 7 SUM

    private static void sumModulo() {
        sentence(BOTH, "added up, modulo 256");
        int[][] alone = {{0, 0}, {1, 1}, {255, 255}, {256, 0}, {257, 1}, {-1, 255}, {-255, 1}, {-256, 0}, {-257, 255},
            {LEAST, 0}, {MOST, 255}};
        for (int[] sum : alone) {
            bothWays(format(SUM, sum[0], 0), row(sum[1]));
            parsed(format(SUM, sum[0], 0), MISMATCH, 0, 0, sum[1] ^ 1);
            parsed(format(SUM, sum[0], 0), MISMATCH, 0, 0, sum[1] ^ 128);
        }
        bothWays(format(INT, 1, 0, SUM, 0, 0), row(255, 255), 255);
        bothWays(format(INT, 1, 0, SUM, 1, 0), row(255, 0), 255);
        bothWays(format(INT, 1, 0, SUM, 2, 0), row(255, 1), 255);
        bothWays(format(INT, 2, 0, SUM, 0, 0), row(128, 127, 255), 0x807f);
        bothWays(format(INT, 2, 0, SUM, 0, 0), row(128, 128, 0), 0x8080);
    }

    private static void sumFromTheBeginning() {
        sentence(BOTH, "a and all bytes before it (from the beginning)");
        bothWays(format(BYTE, 5, 0, SUM, 0, 0, SUM, 0, 0, SUM, 1, 0), row(5, 5, 10, 21));
        bothWays(format(SET, 2, 0, BYTE, 5, 0, BLOCK, 0, 0, BYTE, 6, 0, SUM, 0, 0, END, 0, 0, SUM, 0, 0), row(5, 6, 11, 22));
        bothWays(format(BITS, 1, 0, SUM, 0, 0), row(128, 128), 1);
        bothWays(format(BITS, 9, 0, SUM, 0, 0, BITS, 2, 1, SUM, 0, 0), row(1, 128, 129, 192, 194), 3, 3);
        bothWays(format(SET, 3, 0, REPEAT, 0, 0, SUM, 1, 0, END, 0, 0), row(1, 2, 4));
        Bench x = format(SUM, 3, 0);
        parsed(x, LEFT, 1, 1, 3, 200);
        bothWays(x, row(3));
    }

    private static void sumFull() {
        sentence(BOTH + ", full", "a and all bytes before it (from the beginning)");
        int[] items = {SET, 32, 0, REPEAT, 0, 0, BYTE, 255, 0, END, 0, 0, SET, 31, 0, REPEAT, 0, 0, BYTE, 255, 0, END, 0, 0,
            SUM, 3, 0};
        bothWays(format(items), join(times(63, 255), row((63 * 255 + 3) % 256)));
        written(format(join(items, row(SUM, 3, 0))), SHORT, 9, 64);
    }

    // 8 ALIGN

    private static void alignEvery() {
        sentence(BOTH, "as few bytes 0 as bring the number of bytes before what follows to a multiple of a (2 .. 8)");
        for (int a = 2; a <= 8; a++) {
            for (int before = 0; before <= 64; before++) {
                int gap = before % a == 0 ? 0 : a - before % a;
                Bench x = format(join(ones(before), row(ALIGN, a, 0)));
                int[] bytes = join(times(before, 1), times(gap, 0));
                if (before + gap <= 64) {
                    bothWays(x, bytes);
                } else {
                    written(x, SHORT, 8, before);
                    is(x.bytes(), before);
                }
                if (before + gap <= 63) {
                    parsed(x, LEFT, 9, before + gap, join(bytes, row(0)));
                }
                if (gap > 0) {
                    parsed(x, SHORT, 8, before, join(times(before, 1), times(gap - 1, 0)));
                }
            }
        }
    }

    private static void alignFromTheBeginning() {
        sentence(BOTH + ", within a BLOCK and behind BITS",
            "as few bytes 0 as bring the number of bytes before what follows to a multiple of a (2 .. 8)");
        bothWays(format(BYTE, 1, 0, SET, 3, 0, BLOCK, 0, 0, ALIGN, 4, 0, END, 0, 0), row(1, 0, 0, 0));
        bothWays(format(BYTE, 1, 0, SET, 0, 0, BLOCK, 0, 0, END, 0, 0, ALIGN, 2, 0), row(1, 0));
        bothWays(format(BITS, 1, 0, ALIGN, 2, 0), row(128, 0), 1);
        bothWays(format(BITS, 8, 0, ALIGN, 2, 0), row(129, 0), 129);
        bothWays(format(BITS, 9, 0, ALIGN, 2, 0), row(128, 128), 257);
        bothWays(format(BYTE, 1, 0, ALIGN, 8, 0, ALIGN, 8, 0, ALIGN, 4, 0), row(1, 0, 0, 0, 0, 0, 0, 0));
    }

    private static void alignOverOldBytes() {
        sentence("promise 9, behind another write",
            "as few bytes 0 as bring the number of bytes before what follows to a multiple of a (2 .. 8)");
        Bench x = format(INT, 1, 0, WHEN, 255, 0, INT, 4, 1, INT, 3, 1, ELSE, 0, 0, ALIGN, 8, 0, END, 0, 0);
        written(x, OK, NONE, 8, 255, -1, 0xffffff);
        hasBytes(x, times(8, 255));
        written(x, OK, NONE, 8, 1);
        hasBytes(x, 1, 0, 0, 0, 0, 0, 0, 0);
    }

    // 9 BOUND, 10 SET, 11 ADD

    private static void boundEdges() {
        sentence(BOTH, "nothing; v must be 0 .. a");
        int[] most = {0, 1, 5, 255, MOST - 1, MOST, -1, -5, LEAST};
        for (int a : most) {
            int[] numbers = {LEAST, -1, 0, 1, 4, 5, 6, 254, 255, 256, MOST - 2, MOST - 1, MOST, a, a - 1, a + 1};
            for (int number : numbers) {
                boolean holds = number >= 0 && number <= a;
                Bench x = format(INT, 4, 0, BOUND, a, 0);
                int[] bytes = bytesOf(number, 4, false);
                bothEnd(x, holds ? OK : RANGE, holds ? NONE : 1, 4, bytes, number);
                is(x.variable(0), number);
            }
        }
    }

    private static void setAndAdd() {
        sentence(BOTH, "v becomes a      11 ADD a b = v    v grows by a");
        int[] numbers = {LEAST, -1, 0, 1, MOST};
        for (int a : numbers) {
            for (int v = 0; v < 8; v++) {
                Bench x = format(SET, 3, v, SET, a, v);
                bothWays(x, row());
                is(x.variable(v), a);
                is(x.variable((v + 1) % 8), 0);
                x = format(SET, 3, v, ADD, a, v, ADD, -3, v);
                bothWays(x, row());
                is(x.variable(v), a);
                is(x.variable((v + 1) % 8), 0);
            }
        }
    }

    private static void notLookedAt() {
        sentence(BOTH, "not looked at in 1, 4, 6, 12, 13; b not in 3, 7, 8, 12, 13.)");
        int[] any = {LEAST, -1, 8, 255, MOST};
        for (int n : any) {
            Bench x = format(SET, 1, 0, VAR, n, 1, REPEAT, n, 0, BYTE, 7, n, END, n, n, BLOCK, n, 0, SUM, 2, n, END, n, n,
                WHEN, 1, 0, ALIGN, 4, n, ELSE, n, n, BYTE, 9, n, END, n, n);
            bothWays(x, row(5, 7, 14, 0), 5);
            is(x.variable(0), 1);
            is(x.variable(7), 0);
        }
    }

    // CLOSING the bits

    private static final int[] CLOSING = {INT, VAR, BYTE, BLOCK, SUM, ALIGN};

    /** A byte begun by BITS that has some bits left, then the item of that kind, number 2. */
    private static int[] closedBy(int bits, int kind) {
        int[] begun = {SET, 0, 1, BITS, bits, 0};
        return join(begun, kind == BLOCK ? row(BLOCK, 0, 1, END, 0, 0) : row(kind, 2, 2));
    }

    private static void closingBeforeItems() {
        sentence("promise 6", "before an item 0, 1, 3, 6, 7, 8");
        for (int kind : CLOSING) {
            for (int bits = 1; bits <= 7; bits++) {
                int[] behind = kind == BLOCK ? row() : kind == INT ? row(0, 2) : kind == ALIGN ? row(0) : row(2);
                Bench x = format(closedBy(bits, kind));
                parsed(x, OK, NONE, 1 + behind.length, join(row(0), behind));
                for (int left = 0; left < 8 - bits; left++) {
                    parsed(x, PADDING, 2, 1, join(row(1 << left), behind));
                    hasValues(x, 0);
                }
                parsed(x, PADDING, 2, 1, join(row(255), behind));
            }
        }
    }

    private static void closingBeforeEndOfBlock() {
        sentence("promise 6", "before the END of a BLOCK");
        for (int bits = 1; bits <= 7; bits++) {
            Bench x = format(SET, 1, 1, BLOCK, 0, 1, BITS, bits, 0, END, 0, 0, BITS, 8, 2);
            parsed(x, OK, NONE, 2, 256 - (1 << 8 - bits), 255);
            hasValues(x, (1 << bits) - 1, 255);
            for (int left = 0; left < 8 - bits; left++) {
                parsed(x, PADDING, 3, 1, 1 << left, 255);
                hasValues(x, 0);
            }
        }
    }

    private static void closingAtTheEnd() {
        sentence("promise 6", "and at the end, the bits of a byte begun by BITS that are left are passed over; they must be 0.");
        for (int bits = 1; bits <= 7; bits++) {
            Bench x = format(BITS, bits, 0);
            parsed(x, OK, NONE, 1, 256 - (1 << 8 - bits));
            hasValues(x, (1 << bits) - 1);
            for (int left = 0; left < 8 - bits; left++) {
                parsed(x, PADDING, 1, 1, 1 << left);
                hasValues(x, 0);
            }
        }
    }

    private static void closingNotElsewhere() {
        sentence(BOTH + ", the other items", "before an item 0, 1, 3, 6, 7, 8, before the END of a BLOCK and at the end");
        int[][] between = {{REPEAT, 0, 1, END, 0, 0}, {WHEN, 1, 1, END, 0, 0}, {WHEN, 1, 1, ELSE, 0, 0, END, 0, 0},
            {WHEN, 2, 1, ELSE, 0, 0, END, 0, 0}, {BOUND, 1, 1}, {SET, 5, 2}, {ADD, 5, 1}, {BITS, 1, 2}};
        for (int[] items : between) {
            for (int bits = 1; bits <= 6; bits++) {
                int own = items[0] == BITS ? 1 : 0;
                int[] values = {(1 << bits) - 1, (1 << 8 - bits - own) - 1};
                Bench x = format(join(row(SET, 1, 1, BITS, bits, 0), items, row(BITS, 8 - bits - own, 3)));
                bothWays(x, row(255), own == 0 ? values : row(values[0], 1, values[1]));
            }
        }
        Bench rounds = format(SET, 8, 1, REPEAT, 0, 1, BITS, 1, 0, WHEN, 1, 0, ELSE, 0, 0, END, 0, 0, END, 0, 0);
        bothWays(rounds, row(0b10110111), 1, 0, 1, 1, 0, 1, 1, 1);
    }

    private static void closingNothingLeft() {
        sentence(BOTH + ", when none is left", "the bits of a byte begun by BITS that are left are passed over");
        for (int kind : CLOSING) {
            int[] behind = kind == BLOCK || kind == ALIGN ? row() : kind == INT ? row(0, 2) : row(2);
            int[] items = join(row(SET, 0, 1, BITS, 16, 0), kind == BLOCK ? row(BLOCK, 0, 1, END, 0, 0)
                : kind == SUM ? row(SUM, 2 - 2 * 255, 2) : row(kind, 2, 2));
            int[] values = kind == INT || kind == VAR ? row(65535, 2) : row(65535);
            bothWays(format(items), join(row(255, 255), behind), values);
        }
        bothWays(format(BITS, 8, 0), row(255), 255);
        bothWays(format(SET, 1, 1, BLOCK, 0, 1, BITS, 8, 0, END, 0, 0), row(255), 255);
    }

    private static void closingMakesTheByte() {
        sentence("promise 9", "in a write the byte is made then, with zeros.");
        for (int bits = 1; bits <= 7; bits++) {
            int most = (1 << bits) - 1;
            int made = most << 8 - bits;
            Bench x = format(INT, 4, 0, BITS, bits, 0);
            written(x, OK, NONE, 5, -1, most);
            hasBytes(x, 255, 255, 255, 255, made);
            x.wipe();
            putAll(x, BITS, bits, 0, INT, 1, 0, BITS, bits, 0, VAR, 0, 0, BITS, bits, 0, BYTE, 3, 0, SET, 1, 1,
                BITS, bits, 0, BLOCK, 0, 1, BITS, bits, 0, END, 0, 0, BITS, bits, 0, SUM, 0, 0, BITS, bits, 0, ALIGN, 6, 0);
            is(x.compile(), OK);
            written(x, OK, NONE, 12, most, 7, most, 8, most, most, most, most, most);
            hasBytes(x, made, 7, made, 8, made, 3, made, made, made, (6 * made + 18) % 256, made, 0);
        }
    }
}
