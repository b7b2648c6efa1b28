import java.util.ArrayList;
import java.util.List;
import java.util.Random;

/** Runs of calls with choices from a fixed seed, each answer compared with that of Model. */
public final class ModelTest {
    private static final int OBJECTS = 5000;
    private static final int PROMISED_CALLS = 512;
    private static final int OK = 0, SHORT = 3, NOT_READY = 9;
    private static final Due due = new Due();
    private static final int[] answers = new int[10];

    private final Random random;
    private final FormatWorkshop x = new FormatWorkshop();
    private final Model model = new Model();
    private final List<Integer> fed = new ArrayList<>();
    private final StringBuilder told = new StringBuilder();
    private int calls = 0;

    private ModelTest(long seed) {
        random = new Random(seed);
    }

    public static void main(String[] args) {
        for (int seed = 1; seed <= OBJECTS && due.allRight(); seed++) {
            new ModelTest(seed).go();
        }
        for (int answer = 0; answer < answers.length; answer++) {
            due.holds("the runs bring about the answer " + answer + " often, here " + answers[answer], answers[answer] > 200);
        }
        due.end();
    }

    private void go() {
        if (random.nextInt(20) == 0) {
            parseAndWrite();
        }
        while (goesOn()) {
            describe();
            for (int runs = 1 + random.nextInt(4); runs > 0 && goesOn(); runs--) {
                if (random.nextBoolean()) {
                    writeAndParse();
                } else {
                    parseAndWrite();
                }
            }
        }
        if (!due.allRight()) {
            System.out.println("the calls before it that can change something:\n" + told);
        }
    }

    private boolean goesOn() {
        return calls < PROMISED_CALLS && due.allRight();
    }

    private void describe() {
        if (random.nextInt(10) > 0) {
            done("wipe()", x.wipe(), model.wipe());
        }
        int way = random.nextInt(8);
        if (way == 0) {
            for (int i = random.nextInt(45); i >= 0; i--) {
                put(random.nextInt(16) - 1, near(16), near(8));
            }
        } else if (way == 1) {
            longRuns();
        } else {
            int variables = random.nextInt(9);
            for (int v = 0; v < variables; v++) {
                number(v);
            }
            part(0);
        }
        ran("compile()", x.compile(), model.compile());
        same("at()", x.at(), model.at());
    }

    /** Many rounds, of items that take little, so that steps or values become too many. */
    private void longRuns() {
        put(2, 1 + random.nextInt(6), 0);
        put(10, 16 + random.nextInt(17), 1);
        put(4, 0, 1);
        put(10, random.nextInt(17), 2);
        put(4, 0, 2);
        put(random.nextBoolean() ? 11 : 2, 1, 0);
        part(3);
        put(13, 0, 0);
        put(2, 1, 3);
        put(13, 0, 0);
        part(0);
    }

    private void part(int depth) {
        int count = random.nextInt(depth == 0 ? 12 : 5);
        for (int i = 0; i < count; i++) {
            int kind = random.nextInt(12);
            int v = random.nextInt(8);
            if (kind <= 2) {
                number(v);
            } else if (kind >= 4 && kind <= 6) {
                opening(kind, v, depth);
            } else if (kind == 8) {
                put(8, 2 + random.nextInt(7), 0);
            } else if (kind == 9) {
                put(9, random.nextInt(10) == 0 ? near(4) : 1 << random.nextInt(31), v);
            } else if (kind == 10 || kind == 11) {
                put(kind, near(4), v);
            } else {
                put(random.nextBoolean() ? 3 : 7, random.nextInt(4), v);
            }
        }
    }

    private void opening(int kind, int v, int depth) {
        if (depth == 4 && random.nextInt(30) > 0 || depth > 4) {
            return;
        }
        if (random.nextInt(3) == 0) {
            put(10, random.nextInt(kind == 4 ? 34 : 5), v);
        }
        put(kind, random.nextInt(4), v);
        part(depth + 1);
        if (kind == 5 && random.nextBoolean() || random.nextInt(100) == 0) {
            put(12, 0, 0);
            part(depth + 1);
        }
        if (random.nextInt(200) > 0) {
            put(13, 0, 0);
        }
    }

    private void number(int v) {
        int kind = random.nextInt(4);
        if (kind == 0) {
            put(0, 1 + random.nextInt(4), v + 8 * random.nextInt(4));
        } else if (kind == 1) {
            put(1, near(4), v);
        } else if (kind == 2) {
            put(2, 1 + random.nextInt(16), v);
        } else {
            put(10, random.nextInt(5), v);
        }
    }

    private int near(int range) {
        switch (random.nextInt(12)) {
            case 0:
                return random.nextInt();
            case 1:
                return -1 - random.nextInt(range);
            case 2:
                return random.nextInt(300);
            default:
                return random.nextInt(range + 1);
        }
    }

    private int numberToWrite() {
        switch (random.nextInt(14)) {
            case 0:
                return random.nextInt();
            case 1:
                return -random.nextInt(130);
            case 2:
                return (1 << random.nextInt(32)) - random.nextInt(2);
            case 3:
                return random.nextInt() >>> random.nextInt(32);
            default:
                return random.nextInt(random.nextBoolean() ? 4 : 2);
        }
    }

    /** The list grows until the format has what it takes, so that most writes come far. */
    private void writeAndParse() {
        done("drop()", x.drop(), model.drop());
        int most = random.nextInt(10) == 0 ? 42 : 24;
        for (int i = 0; i < most && write() == SHORT && random.nextInt(40) > 0; i++) {
            int number = numberToWrite();
            done("value(" + number + ")", x.value(number), model.value(number));
        }
        int spoilt = random.nextInt(3) == 0 ? random.nextInt(x.bytes() + 1) : -1;
        for (int i = 0; i < x.bytes(); i++) {
            int made = x.byteAt(i);
            feed(i == spoilt ? made ^ 1 << random.nextInt(8) : made, 1);
        }
        if (random.nextInt(6) == 0) {
            feed(near(4), near(4));
        }
        parse();
        state();
    }

    private void parseAndWrite() {
        int length = random.nextInt(random.nextInt(4) == 0 ? 66 : 12);
        for (int i = 0; i < length; i++) {
            feed(random.nextInt(3) == 0 ? numberToWrite() : random.nextInt(4), 1);
        }
        if (random.nextInt(8) == 0) {
            feed(random.nextInt(), near(4));
        }
        parse();
        write();
        state();
    }

    private void put(int kind, int a, int b) {
        done("put(" + kind + ", " + a + ", " + b + ")", x.put(kind, a, b), model.put(kind, a, b));
    }

    private void feed(int w, int n) {
        int length = x.feed(w, n);
        done("feed(" + w + ", " + n + ")", length, model.feed(w, n));
        for (int i = 0; fed.size() < length; i++) {
            fed.add(w >> 8 * i & 255);
        }
    }

    private int write() {
        int answer = x.write();
        ran("write()", answer, model.write());
        same("at()", x.at(), model.at());
        same("bytes()", x.bytes(), model.bytes());
        return answer;
    }

    private void parse() {
        int answer = x.parse();
        ran("parse()", answer, model.parse());
        same("at()", x.at(), model.at());
        same("values()", x.values(), model.values());
        if (answer == OK && goesOn()) {
            putTogetherAgain();
        }
        if (answer != NOT_READY) {
            fed.clear();
        }
    }

    /** There is one way alone to put values together, so what is taken apart with OK comes back as it was. */
    private void putTogetherAgain() {
        due.is("write() behind parse()", write(), OK);
        due.is("bytes() behind parse()", x.bytes(), fed.size());
        for (int k = 0; k < fed.size(); k++) {
            due.is("byteAt() behind parse()", x.byteAt(k), fed.get(k));
        }
    }

    private void state() {
        for (int k = -1; k <= model.values(); k++) {
            same("valueAt(" + k + ")", x.valueAt(k), model.valueAt(k));
        }
        for (int k = -1; k <= model.bytes(); k++) {
            same("byteAt(" + k + ")", x.byteAt(k), model.byteAt(k));
        }
        for (int v = -1; v <= 8; v++) {
            same("variable(" + v + ")", x.variable(v), model.variable(v));
        }
    }

    private void ran(String call, int got, int want) {
        answers[got]++;
        done(call, got, want);
        same("place()", x.place(), model.place());
    }

    private void done(String call, int got, int want) {
        if (due.allRight()) {
            told.append(call).append(" = ").append(got).append('\n');
        }
        same(call, got, want);
    }

    private void same(String call, int got, int want) {
        calls++;
        if (goesOn()) {
            due.is(call, got, want);
        }
    }
}
