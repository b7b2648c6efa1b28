/**
 * A workshop for binary formats: a format is described by items, the description is checked,
 * and then bytes, however hostile, are taken apart by it, or put together.
 */
public final class FormatWorkshop {
    public static final int OK = 0, STRUCTURE = 1, UNSET = 2, SHORT = 3, RANGE = 4, MISMATCH = 5,
        PADDING = 6, LEFT = 7, MANY = 8, NOT_READY = 9, REFUSED = -1;

    private static final int INT = 0, VAR = 1, BITS = 2, BYTE = 3, REPEAT = 4, WHEN = 5, BLOCK = 6,
        SUM = 7, ALIGN = 8, BOUND = 9, SET = 10, ADD = 11, ELSE = 12, END = 13;

    private static final int MOST_ITEMS = 40, MOST_VALUES = 40, MOST_BYTES = 64, MOST_OPEN = 4,
        MOST_ROUNDS = 32, MOST_STEPS = 400, VARIABLES = 8;

    // The bits of an INT's b beside its variable, which has the lowest three.
    private static final int VARIABLE_BITS = 7, LOW_FIRST = 8, SIGNED = 16;

    private static final int VAR_LENGTH = 5, LAST_VAR_BYTE = 15;

    private static final int NOWHERE = -1;

    // A step can bring with it one ELSE and the ENDs of 32 rounds, so 400 steps stay far below this.
    private static final int MOST_VISITS = 1000000;

    private final int[] itemKind = new int[MOST_ITEMS];
    private final int[] itemA = new int[MOST_ITEMS];
    private final int[] itemB = new int[MOST_ITEMS];
    private int itemCount = 0;

    // An opening item's mate is its ELSE, or its END if it has none; an ELSE's is the END, an END's the opening item.
    private final int[] itemMate = new int[MOST_ITEMS];
    private final int[] openItems = new int[MOST_OPEN];
    private int openCount = 0;
    private final int[] setAt = new int[MOST_ITEMS];

    // The format is a copy, since the items may change while it stays.
    private final int[] formatKind = new int[MOST_ITEMS];
    private final int[] formatA = new int[MOST_ITEMS];
    private final int[] formatB = new int[MOST_ITEMS];
    private final int[] formatMate = new int[MOST_ITEMS];
    private int formatCount = 0;
    private boolean hasFormat = false;

    private final int[] input = new int[MOST_BYTES];
    private int inputLength = 0;
    private final int[] list = new int[MOST_VALUES];
    private int listLength = 0;
    private final int[] output = new int[MOST_BYTES];
    private int outputLength = 0;

    private final int[] variables = new int[VARIABLES];
    private int endedAt = NOWHERE;

    // The run under way, or the latest one. The position counts a byte begun by BITS as a whole one.
    private boolean writing = false;
    private int current = 0;
    private int following = 0;
    private int steps = 0;
    private int position = 0;
    private int bitsLeft = 0;
    private int limit = 0;
    private int valuesUsed = 0;

    // No item is open twice at once, so the item's number serves where a stack would.
    private final int[] roundsLeft = new int[MOST_ITEMS];
    private final int[] outerLimit = new int[MOST_ITEMS];

    public FormatWorkshop() {
    }

    public int put(int kind, int a, int b) {
        if (itemCount >= MOST_ITEMS || kind < INT || kind > END) {
            return REFUSED;
        }
        if (!fitsAsA(kind, a) || !fitsAsB(kind, b)) {
            return REFUSED;
        }
        itemKind[itemCount] = kind;
        itemA[itemCount] = a;
        itemB[itemCount] = b;
        itemCount++;
        return itemCount;
    }

    public int wipe() {
        int removed = itemCount;
        itemCount = 0;
        return removed;
    }

    public int compile() {
        endedAt = findStructureFault();
        if (endedAt != NOWHERE) {
            return STRUCTURE;
        }
        endedAt = findUnset();
        if (endedAt != NOWHERE) {
            return UNSET;
        }
        adoptItems();
        return OK;
    }

    public int feed(int w, int n) {
        if (n < 1 || n > 4) {
            return REFUSED;
        }
        for (int i = 0; i < n && inputLength < MOST_BYTES; i++) {
            input[inputLength] = (w >>> (8 * i)) & 255;
            inputLength++;
        }
        return inputLength;
    }

    public int parse() {
        if (!hasFormat) {
            return NOT_READY;
        }
        writing = false;
        limit = inputLength;
        listLength = 0;
        int ended = runFormat();
        inputLength = 0;
        return ended;
    }

    public int value(int v) {
        if (listLength >= MOST_VALUES) {
            return REFUSED;
        }
        list[listLength] = v;
        listLength++;
        return listLength;
    }

    public int drop() {
        int removed = listLength;
        listLength = 0;
        return removed;
    }

    public int write() {
        if (!hasFormat) {
            return NOT_READY;
        }
        writing = true;
        limit = MOST_BYTES;
        int ended = runFormat();
        outputLength = bitsLeft > 0 ? position - 1 : position;
        return ended;
    }

    public int place() {
        return endedAt;
    }

    public int at() {
        // An item that ends a run does not move the position, so it is still where the run came to it.
        return position;
    }

    public int values() {
        return listLength;
    }

    public int valueAt(int k) {
        return k >= 0 && k < listLength ? list[k] : 0;
    }

    public int bytes() {
        return outputLength;
    }

    public int byteAt(int k) {
        return k >= 0 && k < outputLength ? output[k] : -1;
    }

    public int variable(int v) {
        return v >= 0 && v < VARIABLES ? variables[v] : 0;
    }

    private boolean fitsAsA(int kind, int a) {
        switch (kind) {
            case INT:
                return a >= 1 && a <= 4;
            case BITS:
                return a >= 1 && a <= 16;
            case BYTE:
                return a >= 0 && a <= 255;
            case ALIGN:
                return a >= 2 && a <= 8;
            default:
                return true;
        }
    }

    private boolean fitsAsB(int kind, int b) {
        switch (kind) {
            case INT:
                return b >= 0 && b <= (VARIABLE_BITS | LOW_FIRST | SIGNED);
            case BYTE:
            case SUM:
            case ALIGN:
            case ELSE:
            case END:
                return true;
            default:
                return b >= 0 && b < VARIABLES;
        }
    }

    private boolean opens(int kind) {
        return kind == REPEAT || kind == WHEN || kind == BLOCK;
    }

    private boolean hasValue(int kind) {
        return kind == INT || kind == VAR || kind == BITS;
    }

    private int findStructureFault() {
        openCount = 0;
        for (int i = 0; i < itemCount; i++) {
            int kind = itemKind[i];
            boolean belongs = true;
            if (opens(kind)) {
                belongs = openItem(i);
            } else if (kind == ELSE) {
                belongs = joinElse(i);
            } else if (kind == END) {
                belongs = joinEnd(i);
            }
            if (!belongs) {
                return i;
            }
        }
        return openCount > 0 ? itemCount : NOWHERE;
    }

    private boolean openItem(int i) {
        if (openCount >= MOST_OPEN) {
            return false;
        }
        openItems[openCount] = i;
        openCount++;
        itemMate[i] = NOWHERE;
        return true;
    }

    private boolean joinElse(int i) {
        if (openCount == 0) {
            return false;
        }
        int opener = openItems[openCount - 1];
        if (itemKind[opener] != WHEN || itemMate[opener] != NOWHERE) {
            return false;
        }
        itemMate[opener] = i;
        return true;
    }

    private boolean joinEnd(int i) {
        if (openCount == 0) {
            return false;
        }
        openCount--;
        int opener = openItems[openCount];
        int otherwise = itemMate[opener];
        if (otherwise == NOWHERE) {
            itemMate[opener] = i;
        } else {
            itemMate[otherwise] = i;
        }
        itemMate[i] = opener;
        return true;
    }

    private int findUnset() {
        int set = 0;
        for (int i = 0; i < itemCount; i++) {
            int own = 1 << (itemB[i] & VARIABLE_BITS);
            if (needsSet(itemKind[i]) && (set & own) == 0) {
                return i;
            }
            set = setBehind(i, set, own);
        }
        return NOWHERE;
    }

    private boolean needsSet(int kind) {
        return opens(kind) || kind == BOUND || kind == ADD;
    }

    private int setBehind(int i, int set, int own) {
        setAt[i] = set;
        switch (itemKind[i]) {
            case INT:
            case VAR:
            case BITS:
            case SET:
            case ADD:
                return set | own;
            case ELSE:
                return setAt[itemMate[itemMate[i]]];
            case END:
                return setBehindEnd(i, set);
            default:
                return set;
        }
    }

    private int setBehindEnd(int end, int set) {
        int opener = itemMate[end];
        if (itemKind[opener] == BLOCK) {
            return set;
        }
        // The other way goes past the items, or through the part before ELSE.
        int otherWay = itemMate[opener] == end ? opener : itemMate[opener];
        return set & setAt[otherWay];
    }

    private void adoptItems() {
        for (int i = 0; i < itemCount; i++) {
            formatKind[i] = itemKind[i];
            formatA[i] = itemA[i];
            formatB[i] = itemB[i];
            formatMate[i] = itemMate[i];
        }
        formatCount = itemCount;
        hasFormat = true;
    }

    private int runFormat() {
        startRun();
        int ended = OK;
        for (int visit = 0; visit < MOST_VISITS && ended == OK && current < formatCount; visit++) {
            int kind = formatKind[current];
            following = current + 1;
            ended = prepareItem(kind);
            if (ended == OK) {
                ended = doItem(kind, formatA[current], formatB[current]);
            }
            if (ended == OK) {
                current = following;
            }
        }
        if (ended == OK) {
            ended = finishRun();
        }
        endedAt = ended == OK ? NOWHERE : current;
        return ended;
    }

    private void startRun() {
        current = 0;
        steps = 0;
        position = 0;
        bitsLeft = 0;
        valuesUsed = 0;
        for (int v = 0; v < VARIABLES; v++) {
            variables[v] = 0;
        }
    }

    private int finishRun() {
        if (!closeBits()) {
            return PADDING;
        }
        boolean left = writing ? valuesUsed < listLength : position < inputLength;
        return left ? LEFT : OK;
    }

    /** What comes before the item itself, in the document's order: MANY, closing the bits, a value to write. */
    private int prepareItem(int kind) {
        if (kind == ELSE || kind == END) {
            return OK;
        }
        if (steps >= MOST_STEPS) {
            return MANY;
        }
        steps++;
        if (!writing && hasValue(kind) && listLength >= MOST_VALUES) {
            return MANY;
        }
        if (closesBits(kind) && !closeBits()) {
            return PADDING;
        }
        if (writing && hasValue(kind) && valuesUsed >= listLength) {
            return SHORT;
        }
        return OK;
    }

    private boolean closesBits(int kind) {
        return kind == INT || kind == VAR || kind == BYTE || kind == BLOCK || kind == SUM || kind == ALIGN;
    }

    /** Answers whether the bits passed over are 0; in a write they are, for a byte is begun with zeros. */
    private boolean closeBits() {
        if (!writing && bitsLeft > 0 && (input[position - 1] & ((1 << bitsLeft) - 1)) != 0) {
            return false;
        }
        bitsLeft = 0;
        return true;
    }

    private int doItem(int kind, int a, int b) {
        int v = b & VARIABLE_BITS;
        switch (kind) {
            case INT:
                return writing ? writeInt(a, b) : readInt(a, b);
            case VAR:
                return writing ? writeVar(v) : readVar(v);
            case BITS:
                return writing ? writeBits(a, v) : readBits(a, v);
            case BYTE:
                return doByte(a);
            case REPEAT:
                return enterRepeat(variables[v]);
            case WHEN:
                following = variables[v] == a ? current + 1 : formatMate[current] + 1;
                return OK;
            case BLOCK:
                return enterBlock(variables[v]);
            case SUM:
                int sum = writing ? sumUp(output, a) : sumUp(input, a);
                return doByte(sum);
            case ALIGN:
                return doAlign(a);
            case BOUND:
                return variables[v] >= 0 && variables[v] <= a ? OK : RANGE;
            case SET:
                variables[v] = a;
                return OK;
            case ADD:
                variables[v] += a;
                return OK;
            case ELSE:
                following = formatMate[current];
                return OK;
            default:
                return leaveOpened(formatMate[current]);
        }
    }

    private int enterRepeat(int rounds) {
        if (rounds < 0 || rounds > MOST_ROUNDS) {
            return RANGE;
        }
        roundsLeft[current] = rounds;
        if (rounds == 0) {
            following = formatMate[current] + 1;
        }
        return OK;
    }

    private int enterBlock(int length) {
        if (length < 0) {
            return RANGE;
        }
        if (length > limit - position) {
            return SHORT;
        }
        outerLimit[current] = limit;
        limit = position + length;
        return OK;
    }

    private int leaveOpened(int opener) {
        if (formatKind[opener] == REPEAT) {
            roundsLeft[opener]--;
            if (roundsLeft[opener] > 0) {
                following = opener + 1;
            }
        } else if (formatKind[opener] == BLOCK) {
            if (!closeBits()) {
                return PADDING;
            }
            if (position < limit) {
                return LEFT;
            }
            limit = outerLimit[opener];
        }
        return OK;
    }

    private void keepRead(int number, int v) {
        list[listLength] = number;
        listLength++;
        variables[v] = number;
    }

    private void keepWritten(int number, int v) {
        valuesUsed++;
        variables[v] = number;
    }

    private int readInt(int length, int b) {
        if (length > limit - position) {
            return SHORT;
        }
        int number = 0;
        for (int i = 0; i < length; i++) {
            int offset = (b & LOW_FIRST) != 0 ? length - 1 - i : i;
            number = (number << 8) | input[position + offset];
        }
        if ((b & SIGNED) != 0) {
            number = extendSign(number, length);
        }
        position += length;
        keepRead(number, b & VARIABLE_BITS);
        return OK;
    }

    private int writeInt(int length, int b) {
        int number = list[valuesUsed];
        if (!fitsInBytes(number, length, b)) {
            return RANGE;
        }
        if (length > limit - position) {
            return SHORT;
        }
        for (int i = 0; i < length; i++) {
            int offset = (b & LOW_FIRST) != 0 ? i : length - 1 - i;
            output[position + offset] = (number >>> (8 * i)) & 255;
        }
        position += length;
        keepWritten(number, b & VARIABLE_BITS);
        return OK;
    }

    private boolean fitsInBytes(int number, int length, int b) {
        // A shift by 32 would be one by 0.
        if (length >= 4) {
            return true;
        }
        if ((b & SIGNED) != 0) {
            return extendSign(number, length) == number;
        }
        return (number >>> (8 * length)) == 0;
    }

    private int extendSign(int number, int length) {
        int unused = 32 - 8 * length;
        return (number << unused) >> unused;
    }

    private int readVar(int v) {
        int number = 0;
        int length = 0;
        boolean more = true;
        for (int i = 0; i < VAR_LENGTH && more; i++) {
            if (position + i >= limit) {
                return SHORT;
            }
            int taken = input[position + i];
            if (i == VAR_LENGTH - 1 && taken > LAST_VAR_BYTE || i > 0 && taken == 0) {
                return PADDING;
            }
            number |= (taken & 127) << (7 * i);
            more = taken > 127;
            length = i + 1;
        }
        position += length;
        keepRead(number, v);
        return OK;
    }

    private int writeVar(int v) {
        int number = list[valuesUsed];
        int length = 1;
        while (length < VAR_LENGTH && (number >>> (7 * length)) != 0) {
            length++;
        }
        if (length > limit - position) {
            return SHORT;
        }
        for (int i = 0; i < length; i++) {
            int group = (number >>> (7 * i)) & 127;
            output[position + i] = i < length - 1 ? group | 128 : group;
        }
        position += length;
        keepWritten(number, v);
        return OK;
    }

    private int bytesToBegin(int bits) {
        return bits > bitsLeft ? (bits - bitsLeft + 7) >> 3 : 0;
    }

    private int readBits(int bits, int v) {
        int begun = bytesToBegin(bits);
        if (begun > limit - position) {
            return SHORT;
        }
        int number = 0;
        for (int i = 0; i < bits; i++) {
            if (bitsLeft == 0) {
                position++;
                bitsLeft = 8;
            }
            bitsLeft--;
            number = (number << 1) | ((input[position - 1] >> bitsLeft) & 1);
        }
        keepRead(number, v);
        return OK;
    }

    private int writeBits(int bits, int v) {
        int number = list[valuesUsed];
        if ((number >>> bits) != 0) {
            return RANGE;
        }
        int begun = bytesToBegin(bits);
        if (begun > limit - position) {
            return SHORT;
        }
        for (int i = bits - 1; i >= 0; i--) {
            if (bitsLeft == 0) {
                output[position] = 0;
                position++;
                bitsLeft = 8;
            }
            bitsLeft--;
            output[position - 1] |= ((number >> i) & 1) << bitsLeft;
        }
        keepWritten(number, v);
        return OK;
    }

    private int doByte(int due) {
        if (position >= limit) {
            return SHORT;
        }
        if (writing) {
            output[position] = due;
        } else if (input[position] != due) {
            return MISMATCH;
        }
        position++;
        return OK;
    }

    private int sumUp(int[] made, int start) {
        int sum = start;
        for (int i = 0; i < position; i++) {
            sum += made[i];
        }
        return sum & 255;
    }

    private int doAlign(int unit) {
        int multiple = 0;
        for (int i = 0; i < MOST_BYTES && multiple < position; i++) {
            multiple += unit;
        }
        if (multiple > limit) {
            return SHORT;
        }
        for (int i = position; i < multiple; i++) {
            if (writing) {
                output[i] = 0;
            } else if (input[i] != 0) {
                return PADDING;
            }
        }
        position = multiple;
        return OK;
    }
}
