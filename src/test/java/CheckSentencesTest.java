/** The sentences of promise 4, compile, and of CHECK, on which it rests. */
public final class CheckSentencesTest extends Sentences {
    private static final int[] OPENING = {REPEAT, WHEN, BLOCK};
    private static final int[] NEEDING = {REPEAT, WHEN, BLOCK, BOUND, ADD};
    private static final int[] SETTING = {INT, VAR, BITS, SET};
    private static final int[] ALL_SET = {SET, 0, 0, SET, 0, 1, SET, 0, 2, SET, 0, 3, SET, 0, 4, SET, 0, 5, SET, 0, 6,
        SET, 0, 7};
    private static final int[] ELSES = {ELSE, 0, 0}, ENDS = {END, 0, 0};

    public static void main(String[] args) {
        formatFromNowOn();
        itemsStay();
        emptyAndFull();
        formatStaysBehindStructure();
        formatStaysBehindUnset();
        endWithoutOpening();
        elseWithoutWhen();
        elseTwice();
        elseBehindEnd();
        elseWithin();
        fourOpen();
        fourOpenAgain();
        openAtTheEnd();
        firstFault();
        structureBeforeUnset();
        nothingKeptBetweenChecks();
        unsetKinds();
        unsetVariables();
        unsetFirst();
        notNeeding();
        setByKinds();
        setByInt();
        notSetByOthers();
        setBeforeIt();
        repeatMayDoNothing();
        whenWithoutElse();
        whenWithElse();
        partsApart();
        blockDoesItsItems();
        nestedWays();
        end();
    }

    // Promise 4

    private static void formatFromNowOn() {
        sentence("promise 4", "OK (they are the format from now on; they stay)");
        Bench x = items(BYTE, 7, 0);
        is(x.write(), NOT_READY);
        compiled(x, OK, NONE);
        written(x, OK, NONE, 1);
        hasBytes(x, 7);
        x.put(BYTE, 8, 0);
        written(x, OK, NONE, 1);
        hasBytes(x, 7);
        compiled(x, OK, NONE);
        written(x, OK, NONE, 2);
        hasBytes(x, 7, 8);
    }

    private static void itemsStay() {
        sentence("promise 4", "they stay");
        Bench x = format(BYTE, 7, 0);
        is(x.put(BYTE, 8, 0), 2);
        compiled(x, OK, NONE);
        x.put(ELSE, 0, 0);
        compiled(x, STRUCTURE, 2);
        is(x.wipe(), 3);
        x.put(BYTE, 1, 0);
        x.put(BOUND, 1, 0);
        compiled(x, UNSET, 1);
        is(x.wipe(), 2);
    }

    private static void emptyAndFull() {
        sentence("promise 4, empty and full", "Checks the items: OK");
        Bench x = new Bench();
        compiled(x, OK, NONE);
        parsed(x, OK, NONE, 0);
        parsed(x, LEFT, 0, 0, 1);
        written(x, OK, NONE, 0);
        written(x, LEFT, 0, 0, 1);
        x = format(times(40, BYTE, 3, 0));
        parsed(x, OK, NONE, 40, times(40, 3));
        x.wipe();
        compiled(x, OK, NONE);
        parsed(x, LEFT, 0, 0, 3);
        Bench shorter = format(SET, 1, 0, WHEN, 1, 0, BYTE, 1, 0, ELSE, 0, 0, BYTE, 2, 0, END, 0, 0);
        shorter.wipe();
        putAll(shorter, SET, 0, 0, BYTE, 9, 0);
        compiled(shorter, OK, NONE);
        parsed(shorter, OK, NONE, 1, 9);
    }

    private static void formatStays(int answer, int place, int... items) {
        Bench x = furnished();
        Bench y = furnished();
        x.wipe();
        putAll(x, items);
        compiled(x, answer, place);
        x.wipe();
        putAll(x, INT, 1, 0, BYTE, 7, 0, INT, 2, 1, BYTE, 9, 0);
        // The place is that of the latest compile, so both have one more.
        y.wipe();
        putAll(y, END, 0, 0);
        compiled(y, STRUCTURE, 0);
        y.wipe();
        putAll(y, INT, 1, 0, BYTE, 7, 0, INT, 2, 1, BYTE, 9, 0);
        is(x.write(), y.write());
        is(x.parse(), y.parse());
        same(x, y);
        x = items(items);
        compiled(x, answer, place);
        is(x.parse(), NOT_READY);
        is(x.write(), NOT_READY);
    }

    private static void formatStaysBehindStructure() {
        sentence("promise 4, STRUCTURE", "STRUCTURE or UNSET (the format stays as it was).");
        formatStays(STRUCTURE, 1, BYTE, 8, 0, END, 0, 0);
        formatStays(STRUCTURE, 2, SET, 1, 0, REPEAT, 0, 0);
        formatStays(STRUCTURE, 0, ELSE, 0, 0, BYTE, 8, 0);
    }

    private static void formatStaysBehindUnset() {
        sentence("promise 4, UNSET", "STRUCTURE or UNSET (the format stays as it was).");
        formatStays(UNSET, 1, BYTE, 8, 0, ADD, 1, 0);
        formatStays(UNSET, 0, BOUND, 1, 7, BYTE, 8, 0);
    }

    // STRUCTURE

    private static final String NOT_BELONGING = "STRUCTURE: the first item that is an END or ELSE without one that it belongs to";

    private static void endWithoutOpening() {
        sentence("promise 4, END", NOT_BELONGING);
        for (int before = 0; before <= 39; before++) {
            compiled(items(join(times(before, BYTE, 1, 0), ENDS)), STRUCTURE, before);
        }
        for (int kind : OPENING) {
            compiled(items(SET, 0, 0, kind, 0, 0, END, 0, 0), OK, NONE);
            compiled(items(SET, 0, 0, kind, 0, 0, END, 0, 0, END, 0, 0), STRUCTURE, 3);
            compiled(items(SET, 0, 0, kind, 0, 0, kind, 0, 0, END, 0, 0, END, 0, 0, END, 0, 0), STRUCTURE, 5);
            compiled(items(SET, 0, 0, END, 0, 0, kind, 0, 0, END, 0, 0), STRUCTURE, 1);
        }
        compiled(items(SET, 0, 0, WHEN, 0, 0, ELSE, 0, 0, END, 0, 0, END, 0, 0), STRUCTURE, 4);
    }

    private static void elseWithoutWhen() {
        sentence("promise 4, ELSE", NOT_BELONGING);
        for (int before = 0; before <= 39; before++) {
            compiled(items(join(times(before, BYTE, 1, 0), ELSES)), STRUCTURE, before);
        }
        compiled(items(SET, 0, 0, REPEAT, 0, 0, ELSE, 0, 0, END, 0, 0), STRUCTURE, 2);
        compiled(items(SET, 0, 0, BLOCK, 0, 0, ELSE, 0, 0, END, 0, 0), STRUCTURE, 2);
        compiled(items(SET, 0, 0, WHEN, 0, 0, ELSE, 0, 0, END, 0, 0), OK, NONE);
        compiled(items(SET, 0, 0, ELSE, 0, 0, WHEN, 0, 0, END, 0, 0), STRUCTURE, 1);
    }

    private static void elseTwice() {
        sentence("promise 4", "(ELSE: to a WHEN that has none yet");
        compiled(items(SET, 0, 0, WHEN, 0, 0, ELSE, 0, 0, ELSE, 0, 0, END, 0, 0), STRUCTURE, 3);
        compiled(items(SET, 0, 0, WHEN, 0, 0, ELSE, 0, 0, BYTE, 1, 0, ELSE, 0, 0, END, 0, 0), STRUCTURE, 4);
        compiled(items(SET, 0, 0, WHEN, 0, 0, WHEN, 0, 0, ELSE, 0, 0, END, 0, 0, ELSE, 0, 0, END, 0, 0), OK, NONE);
        compiled(items(SET, 0, 0, WHEN, 0, 0, ELSE, 0, 0, WHEN, 0, 0, ELSE, 0, 0, END, 0, 0, END, 0, 0), OK, NONE);
        compiled(items(SET, 0, 0, WHEN, 0, 0, ELSE, 0, 0, WHEN, 0, 0, ELSE, 0, 0, END, 0, 0, ELSE, 0, 0, END, 0, 0),
            STRUCTURE, 6);
        compiled(items(SET, 0, 0, WHEN, 0, 0, ELSE, 0, 0, WHEN, 0, 0, END, 0, 0, ELSE, 0, 0, END, 0, 0), STRUCTURE, 5);
    }

    private static void elseBehindEnd() {
        sentence("promise 4", "whose END has not come)");
        compiled(items(SET, 0, 0, WHEN, 0, 0, END, 0, 0, ELSE, 0, 0), STRUCTURE, 3);
        compiled(items(SET, 0, 0, WHEN, 0, 0, END, 0, 0, ELSE, 0, 0, END, 0, 0), STRUCTURE, 3);
        compiled(items(SET, 0, 0, REPEAT, 0, 0, WHEN, 0, 0, END, 0, 0, ELSE, 0, 0, END, 0, 0), STRUCTURE, 4);
        compiled(items(SET, 0, 0, WHEN, 0, 0, END, 0, 0, WHEN, 0, 0, ELSE, 0, 0, END, 0, 0), OK, NONE);
    }

    private static void elseWithin() {
        sentence("promise 4, ELSE where another item is open", NOT_BELONGING);
        compiled(items(SET, 0, 0, WHEN, 0, 0, REPEAT, 0, 0, ELSE, 0, 0, END, 0, 0, END, 0, 0), STRUCTURE, 3);
        compiled(items(SET, 0, 0, WHEN, 0, 0, BLOCK, 0, 0, ELSE, 0, 0, END, 0, 0, END, 0, 0), STRUCTURE, 3);
        for (int kind : OPENING) {
            compiled(items(SET, 0, 0, WHEN, 0, 0, kind, 0, 0, END, 0, 0, ELSE, 0, 0, END, 0, 0), OK, NONE);
            compiled(items(SET, 0, 0, kind, 0, 0, WHEN, 0, 0, ELSE, 0, 0, END, 0, 0, END, 0, 0), OK, NONE);
        }
    }

    private static final String FIVE = "or that opens (4, 5, 6) where 4 are open";

    private static void fourOpen() {
        sentence("promise 4", FIVE);
        for (int outer : OPENING) {
            for (int inner : OPENING) {
                int[] three = join(row(SET, 0, 0), times(3, outer, 0, 0));
                compiled(items(join(three, row(inner, 0, 0), times(4, END, 0, 0))), OK, NONE);
                compiled(items(join(three, row(outer, 0, 0, inner, 0, 0), times(5, END, 0, 0))), STRUCTURE, 5);
                compiled(items(join(three, row(outer, 0, 0, inner, 0, 0))), STRUCTURE, 5);
            }
        }
    }

    private static void fourOpenAgain() {
        sentence("promise 4, with some closed", FIVE);
        int[] three = row(SET, 0, 0, REPEAT, 0, 0, WHEN, 0, 0, BLOCK, 0, 0);
        for (int kind : OPENING) {
            int[] fourth = row(kind, 0, 0, END, 0, 0);
            compiled(items(join(three, fourth, fourth, fourth, times(3, END, 0, 0))), OK, NONE);
            compiled(items(join(three, fourth, row(kind, 0, 0, kind, 0, 0), times(5, END, 0, 0))), STRUCTURE, 7);
            compiled(items(join(row(SET, 0, 0), times(4, WHEN, 0, 0), ELSES, row(kind, 0, 0), times(5, END, 0, 0))),
                STRUCTURE, 6);
            compiled(items(join(row(SET, 0, 0), times(4, WHEN, 0, 0), ELSES, ENDS, ELSES, fourth, times(3, END, 0, 0))),
                OK, NONE);
        }
        compiled(items(join(row(SET, 0, 0), times(4, REPEAT, 0, 0), times(4, END, 0, 0), times(4, BLOCK, 0, 0),
            times(4, END, 0, 0))), OK, NONE);
    }

    private static void openAtTheEnd() {
        sentence("promise 4", "or the number of items, if one is open at the end.");
        for (int kind : OPENING) {
            for (int open = 1; open <= 4; open++) {
                for (int ends = 0; ends <= open; ends++) {
                    int[] opened = join(row(SET, 0, 0), times(open, kind, 0, 0), times(ends, END, 0, 0));
                    boolean closed = ends == open;
                    compiled(items(opened), closed ? OK : STRUCTURE, closed ? NONE : 1 + open + ends);
                }
            }
        }
        compiled(items(SET, 0, 0, WHEN, 0, 0, ELSE, 0, 0), STRUCTURE, 3);
        compiled(items(WHEN, 0, 0), STRUCTURE, 1);
        compiled(items(join(row(SET, 0, 0, BLOCK, 0, 0), times(38, BYTE, 1, 0))), STRUCTURE, 40);
        compiled(items(join(row(SET, 0, 0, BLOCK, 0, 0), times(37, BYTE, 1, 0), ENDS)), OK, NONE);
    }

    private static void firstFault() {
        sentence("promise 4, the first of several", NOT_BELONGING);
        compiled(items(ELSE, 0, 0, END, 0, 0), STRUCTURE, 0);
        compiled(items(END, 0, 0, ELSE, 0, 0), STRUCTURE, 0);
        compiled(items(join(row(SET, 0, 0), times(5, REPEAT, 0, 0), ELSES)), STRUCTURE, 5);
        compiled(items(join(row(SET, 0, 0), times(4, REPEAT, 0, 0), ELSES, row(REPEAT, 0, 0))), STRUCTURE, 5);
        compiled(items(END, 0, 0, SET, 0, 0, REPEAT, 0, 0), STRUCTURE, 0);
    }

    private static void structureBeforeUnset() {
        sentence("promise 4", "Then UNSET:");
        compiled(items(BOUND, 1, 0, END, 0, 0), STRUCTURE, 1);
        compiled(items(REPEAT, 0, 0), STRUCTURE, 1);
        compiled(items(REPEAT, 0, 0, END, 0, 0), UNSET, 0);
        compiled(items(join(row(BOUND, 1, 0), times(38, BYTE, 1, 0), ENDS)), STRUCTURE, 39);
        compiled(items(ADD, 1, 0, ELSE, 0, 0), STRUCTURE, 1);
    }

    private static void nothingKeptBetweenChecks() {
        sentence("promise 4, one check behind another", "Checks the items");
        Bench x = items(join(row(SET, 0, 0), times(4, WHEN, 0, 0), ELSES));
        compiled(x, STRUCTURE, 6);
        compiled(x, STRUCTURE, 6);
        x.wipe();
        putAll(x, join(row(SET, 0, 0), times(4, WHEN, 0, 0), ELSES, times(4, END, 0, 0)));
        compiled(x, OK, NONE);
        x.wipe();
        putAll(x, BOUND, 0, 0);
        compiled(x, UNSET, 0);
        x.wipe();
        putAll(x, END, 0, 0);
        compiled(x, STRUCTURE, 0);
    }

    // UNSET

    private static int[] withEnd(int kind, int v) {
        return kind == BOUND || kind == ADD ? row(kind, 0, v) : row(kind, 0, v, END, 0, 0);
    }

    private static void unsetKinds() {
        sentence("promise 4", "the first item of kind 4, 5, 6, 9, 11 whose v is not set before it");
        for (int kind : NEEDING) {
            for (int v = 0; v < 8; v++) {
                compiled(items(withEnd(kind, v)), UNSET, 0);
                compiled(items(join(row(SET, 0, v), withEnd(kind, v))), OK, NONE);
            }
        }
    }

    private static void unsetVariables() {
        sentence("promise 4, each variable apart", "whose v is not set before it");
        for (int set = 0; set < 8; set++) {
            for (int v = 0; v < 8; v++) {
                Bench x = items(SET, 1, set, BOUND, 1, v);
                compiled(x, set == v ? OK : UNSET, set == v ? NONE : 1);
            }
        }
        for (int missing = 0; missing < 8; missing++) {
            int[] items = ALL_SET.clone();
            items[3 * missing] = BYTE;
            compiled(items(join(items, row(BOUND, 0, missing))), UNSET, 8);
        }
    }

    private static void unsetFirst() {
        sentence("promise 4, the first of several", "the first item of kind 4, 5, 6, 9, 11 whose v is not set before it");
        compiled(items(SET, 1, 0, BOUND, 1, 0, BOUND, 1, 6, BOUND, 1, 5), UNSET, 2);
        compiled(items(ADD, 1, 0, ADD, 1, 0), UNSET, 0);
        compiled(items(join(times(39, BYTE, 1, 0), row(ADD, 1, 0))), UNSET, 39);
        compiled(items(SET, 0, 0, WHEN, 0, 0, BOUND, 1, 2, ELSE, 0, 0, BOUND, 1, 1, END, 0, 0), UNSET, 2);
    }

    private static void notNeeding() {
        sentence("promise 4, the other kinds", "the first item of kind 4, 5, 6, 9, 11");
        compiled(items(INT, 1, 0, VAR, 0, 1, BITS, 1, 2, BYTE, 1, 3, SUM, 1, 4, ALIGN, 2, 5, SET, 1, 6), OK, NONE);
        compiled(items(SET, 0, 0, WHEN, 0, 0, ELSE, 0, 7, END, 0, 7), OK, NONE);
    }

    private static void setByKinds() {
        sentence("promise 4", "it is set by 0, 1, 2, 10, 11;");
        for (int setter : SETTING) {
            for (int kind : NEEDING) {
                for (int v = 0; v < 8; v++) {
                    compiled(items(join(row(setter, 1, v), withEnd(kind, v))), OK, NONE);
                    compiled(items(join(row(setter, 1, v), withEnd(kind, (v + 1) % 8))), UNSET, 1);
                }
            }
        }
        compiled(items(SET, 1, 0, ADD, 1, 0, BOUND, 1, 0), OK, NONE);
    }

    private static void setByInt() {
        sentence("promise 4, an INT with 8 and 16", "it is set by 0, 1, 2, 10, 11;");
        for (int b = 0; b < 32; b++) {
            for (int v = 0; v < 8; v++) {
                boolean set = b % 8 == v;
                compiled(items(INT, 1, b, BOUND, 1, v), set ? OK : UNSET, set ? NONE : 1);
            }
        }
    }

    private static void notSetByOthers() {
        sentence("promise 4, the other kinds", "it is set by 0, 1, 2, 10, 11;");
        int[] kinds = {BYTE, SUM, ALIGN};
        for (int kind : kinds) {
            for (int v = 0; v < 8; v++) {
                compiled(items(kind, 2, v, BOUND, 1, v), UNSET, 1);
            }
        }
        compiled(items(SET, 0, 0, WHEN, 0, 0, ELSE, 0, 3, END, 0, 3, BOUND, 1, 3), UNSET, 4);
        for (int kind : OPENING) {
            compiled(items(SET, 0, 0, kind, 1, 0, END, 0, 0, BOUND, 1, 1), UNSET, 3);
        }
    }

    private static void setBeforeIt() {
        sentence("promise 4", "set before it on every way");
        compiled(items(BOUND, 1, 0, SET, 1, 0), UNSET, 0);
        compiled(items(SET, 1, 0, BOUND, 1, 0), OK, NONE);
        compiled(items(SET, 1, 0, REPEAT, 0, 0, BOUND, 1, 1, SET, 1, 1, END, 0, 0), UNSET, 2);
        compiled(items(SET, 1, 0, REPEAT, 0, 0, SET, 1, 1, BOUND, 1, 1, END, 0, 0), OK, NONE);
        compiled(items(WHEN, 1, 0, SET, 1, 0, END, 0, 0), UNSET, 0);
    }

    private static void repeatMayDoNothing() {
        sentence("promise 4", "a REPEAT may do its items not at all");
        compiled(items(SET, 1, 0, REPEAT, 0, 0, SET, 1, 1, END, 0, 0, BOUND, 1, 1), UNSET, 4);
        compiled(items(SET, 1, 0, SET, 1, 1, REPEAT, 0, 0, SET, 1, 1, END, 0, 0, BOUND, 1, 1), OK, NONE);
        compiled(items(SET, 1, 0, REPEAT, 0, 0, SET, 1, 1, END, 0, 0, SET, 1, 1, BOUND, 1, 1), OK, NONE);
        compiled(items(SET, 1, 0, REPEAT, 0, 0, SET, 1, 1, REPEAT, 0, 1, SET, 1, 2, END, 0, 0, BOUND, 1, 1, BOUND, 1, 2,
            END, 0, 0), UNSET, 7);
    }

    private static void whenWithoutElse() {
        sentence("promise 4", "(the second is empty without ELSE)");
        compiled(items(SET, 0, 0, WHEN, 0, 0, SET, 1, 1, END, 0, 0, BOUND, 1, 1), UNSET, 4);
        compiled(items(SET, 0, 0, WHEN, 0, 0, SET, 1, 1, BOUND, 1, 1, END, 0, 0), OK, NONE);
        compiled(items(SET, 0, 0, WHEN, 0, 0, END, 0, 0, BOUND, 1, 0), OK, NONE);
    }

    private static void whenWithElse() {
        sentence("promise 4", "a WHEN does one of its two parts");
        int[] set = {SET, 1, 1}, other = {SET, 1, 2};
        int[] open = {SET, 0, 0, WHEN, 0, 0};
        int[] then = {BOUND, 1, 1};
        compiled(items(join(open, set, ELSES, set, ENDS, then)), OK, NONE);
        compiled(items(join(open, set, ELSES, other, ENDS, then)), UNSET, 6);
        compiled(items(join(open, other, ELSES, set, ENDS, then)), UNSET, 6);
        compiled(items(join(open, set, ELSES, ENDS, then)), UNSET, 5);
        compiled(items(join(open, ELSES, set, ENDS, then)), UNSET, 5);
        compiled(items(join(set, open, ELSES, ENDS, then)), OK, NONE);
        compiled(items(join(open, set, other, ELSES, other, set, ENDS, then, row(BOUND, 1, 2))), OK, NONE);
    }

    private static void partsApart() {
        sentence("promise 4, within the parts", "a WHEN does one of its two parts");
        compiled(items(SET, 0, 0, WHEN, 0, 0, SET, 1, 1, ELSE, 0, 0, BOUND, 1, 1, END, 0, 0), UNSET, 4);
        compiled(items(SET, 0, 0, WHEN, 0, 0, SET, 1, 1, ELSE, 0, 0, SET, 1, 1, BOUND, 1, 1, END, 0, 0), OK, NONE);
        compiled(items(SET, 0, 0, SET, 1, 1, WHEN, 0, 0, SET, 1, 2, ELSE, 0, 0, BOUND, 1, 1, BOUND, 1, 0, END, 0, 0),
            OK, NONE);
    }

    private static void blockDoesItsItems() {
        sentence("promise 4, a BLOCK", "set before it on every way");
        compiled(items(SET, 0, 0, BLOCK, 0, 0, SET, 1, 1, END, 0, 0, BOUND, 1, 1), OK, NONE);
        compiled(items(SET, 0, 0, BLOCK, 0, 0, END, 0, 0, BOUND, 1, 1), UNSET, 3);
        compiled(items(SET, 0, 0, BLOCK, 0, 0, BLOCK, 0, 1, END, 0, 0, END, 0, 0), UNSET, 2);
    }

    private static void nestedWays() {
        sentence("promise 4, four deep", "set before it on every way");
        int[] inner = {WHEN, 0, 0, SET, 1, 1, ELSE, 0, 0, SET, 1, 1, END, 0, 0};
        int[] halfInner = {WHEN, 0, 0, SET, 1, 1, ELSE, 0, 0, SET, 1, 2, END, 0, 0};
        int[] blocks = {SET, 0, 0, BLOCK, 0, 0, BLOCK, 0, 0, BLOCK, 0, 0};
        int[] then = {END, 0, 0, END, 0, 0, END, 0, 0, BOUND, 1, 1};
        compiled(items(join(blocks, inner, then)), OK, NONE);
        compiled(items(join(blocks, halfInner, then)), UNSET, 12);
        int[] when = {SET, 0, 0, WHEN, 0, 0};
        compiled(items(join(when, inner, ELSES, inner, ENDS, row(BOUND, 1, 1))), OK, NONE);
        compiled(items(join(when, inner, ELSES, halfInner, ENDS, row(BOUND, 1, 1))), UNSET, 14);
        compiled(items(join(when, halfInner, ELSES, inner, ENDS, row(BOUND, 1, 1))), UNSET, 14);
        int[] repeat = {SET, 0, 0, REPEAT, 0, 0};
        compiled(items(join(repeat, inner, row(BOUND, 1, 1), ENDS, row(BOUND, 1, 1))), UNSET, 9);
    }
}
