/**
 * One FormatWorkshop whose calls are counted, since nothing is promised behind the 512th, and kept, so that the whole
 * run can be told if an answer is not the one that is due.
 */
final class Bench {
    private static final int PROMISED_CALLS = 512;
    private static Bench latest = new Bench();

    private final FormatWorkshop workshop = new FormatWorkshop();
    private final StringBuilder told = new StringBuilder("new");
    private int calls = 0;

    /** All calls on the object that was called last, with their answers. */
    static String latestRun() {
        return latest.told.toString();
    }

    int calls() {
        return calls;
    }

    private int called(String call, int answer) {
        calls++;
        if (calls > PROMISED_CALLS) {
            throw new IllegalStateException("a test makes more calls than are promised: " + told);
        }
        told.append(", ").append(call).append(" = ").append(answer);
        latest = this;
        return answer;
    }

    int put(int kind, int a, int b) {
        return called("put(" + kind + ", " + a + ", " + b + ")", workshop.put(kind, a, b));
    }

    int wipe() {
        return called("wipe()", workshop.wipe());
    }

    int compile() {
        return called("compile()", workshop.compile());
    }

    int feed(int w, int n) {
        return called("feed(" + w + ", " + n + ")", workshop.feed(w, n));
    }

    int parse() {
        return called("parse()", workshop.parse());
    }

    int value(int v) {
        return called("value(" + v + ")", workshop.value(v));
    }

    int drop() {
        return called("drop()", workshop.drop());
    }

    int write() {
        return called("write()", workshop.write());
    }

    int place() {
        return called("place()", workshop.place());
    }

    int at() {
        return called("at()", workshop.at());
    }

    int values() {
        return called("values()", workshop.values());
    }

    int valueAt(int k) {
        return called("valueAt(" + k + ")", workshop.valueAt(k));
    }

    int bytes() {
        return called("bytes()", workshop.bytes());
    }

    int byteAt(int k) {
        return called("byteAt(" + k + ")", workshop.byteAt(k));
    }

    int variable(int v) {
        return called("variable(" + v + ")", workshop.variable(v));
    }
}
