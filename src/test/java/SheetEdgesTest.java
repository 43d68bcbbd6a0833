/** The boundary cases that promises 29 to 37, and part 5 of the Terms, name; each method quotes its sentence. */
public final class SheetEdgesTest {
    private static final int MIN = Trial.MIN, MAX = Trial.MAX, NONE = Due.NONE;
    private static final int MAN = 0, JIM = 5;

    public static void main(String[] args) {
        noneToTwentyFourPlaces();
        allZeroAgain();
        missingWithAnyN();
        eachSheetByItself();
        lowestSixteenBits();
        floatsAtTheBounds();
        noNumber();
        placesAtTheBounds();
        pourIsHeld();
        pourLeavesWhatIsNoNumber();
        pourBeyondEither();
        pourCountsWhatIsOtherwise();
        readsTheFirst();
        readsBeyondTheMen();
        readsNumbersAlone();
        readsNone();
        copyNoPlaces();
        copyAllPlaces();
        copyAsTheyWere();
        copyNoNumber();
        layTellsWhatItHeld();
        layAnyNumber();
        manForGood();
        rowOfItsOwn();
        askOfEachKind();
        itemAtTheBounds();
        restOfWraps();
        Due.end();
    }

    /** A sheet holds just these, looked at by way of slot 4, and has no place more. */
    private static void dueRow(Trial t, int sheet, int... due) {
        t.call("lay", 4, 2, sheet);
        for (int i = 0; i < due.length; i++) {
            t.due(due[i] == NONE ? Due.KIND : due[i], "item", 4, i);
        }
        t.due(Due.INDEX, "item", 4, due.length);
        t.due(Due.INDEX, "item", 4, -1);
    }

    /** "with 0 to 24 places". */
    private static void noneToTwentyFourPlaces() {
        int[] ns = {0, 1, 23, 24};
        for (int sort = 0; sort < 2; sort++) {
            for (int sheet = 0; sheet < 4; sheet += 3) {
                for (int n : ns) {
                    Trial t = new Trial(29);
                    t.due(n, "sheet", sheet, sort, n);
                    dueRow(t, sheet, new int[n]);
                    t.due(Due.INDEX, "mark", sheet, n, 1);
                    if (n > 0) {
                        t.due(1, "mark", sheet, n - 1, 1);
                        t.due(sort == 0 ? Due.KIND : 1, "mark", sheet, 0, NONE);
                    }
                }
            }
        }
    }

    /** "A SHEET becomes a row of n places of a sort, all 0", whatever it was. */
    private static void allZeroAgain() {
        Trial t = new Trial(29).row(0, 1, 5, NONE, -7);
        t.due(3, "sheet", 0, 1, 3);
        dueRow(t, 0, 0, 0, 0);
        t.row(0, 0, 5, 6, 7);
        t.due(1, "sheet", 0, 0, 1);
        t.due(3, "sheet", 0, 0, 3);
        dueRow(t, 0, 0, 0, 0);
        t.row(0, 0, 5, 6, 7);
        t.due(0, "sheet", 0, -1, 0);
        t.due(3, "sheet", 0, 1, 3);
        dueRow(t, 0, 0, 0, 0);
        t.due(1, "mark", 0, 0, NONE);
        t.due(1, "mark", 0, 0, 99999);
    }

    /** "(sort -1: MISSING, n any): n (0)." */
    private static void missingWithAnyN() {
        int[] ns = {0, 1, 24, 25, -1, MIN, MAX};
        for (int n : ns) {
            Trial t = new Trial(29);
            t.due(0, "sheet", 0, -1, n);
            t.due(Due.NOTHING, "mark", 0, 0, 1);
            t.row(0, 0, 5);
            t.due(0, "sheet", 0, -1, n);
            t.due(Due.NOTHING, "mark", 0, 0, 1);
            t.due(Due.NOTHING, "lay", 0, 2, 0);
        }
    }

    /** "SHEETS 0 .. 3 .. or MISSING (at first)". */
    private static void eachSheetByItself() {
        for (int sheet = 0; sheet < 4; sheet++) {
            Trial t = new Trial(29).row(sheet, 0, 5);
            for (int other = 0; other < 4; other++) {
                t.due(other == sheet ? 0 : Due.NOTHING, "reads", other);
            }
        }
    }

    /** "(of shorts its lowest 16 bits ..)". */
    private static void lowestSixteenBits() {
        int[][] rows = {{0, 0}, {1, 1}, {-1, -1}, {32767, 32767}, {32768, -32768}, {-32768, -32768}, {-32769, 32767}, {65535, -1}, {65536, 0},
            {65537, 1}, {MAX, -1}, {MIN, 0}, {NONE + 1, (short) (NONE + 1)}, {NONE - 1, (short) (NONE - 1)}, {100000, -31072}};
        for (int[] row : rows) {
            Trial t = new Trial(30).row(0, 0, 7, 7, 7);
            t.due(1, "mark", 0, 1, row[0]);
            dueRow(t, 0, 7, row[1], 7);
        }
    }

    /** "of floats v, -99999 .. 99999". */
    private static void floatsAtTheBounds() {
        int[] within = {-99999, -99998, -32769, 0, 32768, 65536, 99998, 99999};
        for (int v : within) {
            Trial t = new Trial(30).row(3, 1, 7, 7);
            t.due(1, "mark", 3, 1, v);
            dueRow(t, 3, 7, v);
        }
        Trial t = new Trial(30).row(3, 1, 7, 7);
        t.due(Due.BAD, "mark", 3, 1, 100000);
        t.due(Due.BAD, "mark", 3, 1, -100000);
        t.due(Due.BAD, "mark", 3, 1, MIN);
        dueRow(t, 3, 7, 7);
    }

    /** "NONE: NO NUMBER"; "A place of floats may be NO NUMBER"; and a number again. */
    private static void noNumber() {
        Trial t = new Trial(30).row(0, 1, 1, 2, 3);
        t.due(1, "mark", 0, 1, NONE);
        dueRow(t, 0, 1, NONE, 3);
        t.due(1, "mark", 0, 1, NONE);
        t.due(1, "mark", 0, 1, 0);
        dueRow(t, 0, 1, 0, 3);
        t = new Trial(30).row(0, 0, 1, 2, 3);
        t.due(Due.KIND, "mark", 0, 1, NONE);
        dueRow(t, 0, 1, 2, 3);
    }

    /** "INDEX: there is no such place". */
    private static void placesAtTheBounds() {
        for (int sort = 0; sort < 2; sort++) {
            Trial t = new Trial(30);
            t.call("sheet", 0, sort, 24);
            t.due(1, "mark", 0, 0, 5);
            t.due(1, "mark", 0, 23, 6);
            t.due(Due.INDEX, "mark", 0, 24, 7);
            t.due(Due.INDEX, "mark", 0, -1, 7);
            int[] due = new int[24];
            due[0] = 5;
            due[23] = 6;
            dueRow(t, 0, due);
        }
    }

    /** "(each held within 0 and 99 ..)". */
    private static void pourIsHeld() {
        int[][] rows = {{-1, 0}, {0, 0}, {1, 1}, {98, 98}, {99, 99}, {100, 99}, {32767, 99}, {-32768, 0}};
        for (int[] row : rows) {
            for (int sort = 0; sort < 2; sort++) {
                Trial t = new Trial(31).man(MAN, 50, 0, 0).row(0, sort, row[0]);
                t.due(1, "pour", 0);
                t.due(row[1], "told", 0, 1);
            }
        }
        Trial t = new Trial(31).man(MAN, 50, 0, 0).man(MAN, 50, 0, 0).row(0, 1, 99999, -99999);
        t.due(2, "pour", 0);
        t.due(99, "told", 0, 1);
        t.due(0, "told", 1, 1);
    }

    /** "NO NUMBER .. it stays". */
    private static void pourLeavesWhatIsNoNumber() {
        Trial t = new Trial(31).man(MAN, 50, 0, 0).man(MAN, 51, 0, 0).man(MAN, 52, 0, 0).row(0, 1, NONE, 7, NONE);
        t.due(1, "pour", 0);
        t.due(50, "told", 0, 1);
        t.due(7, "told", 1, 1);
        t.due(52, "told", 2, 1);
    }

    /** "and beyond the SHEET: it stays"; places beyond the MEN are nothing to it. */
    private static void pourBeyondEither() {
        Trial t = new Trial(31).nine(MAN, 50, 0, 0).row(0, 0, 7, 8);
        t.due(2, "pour", 0);
        int[] due = {7, 8, 50, 50, 50, 50, 50, 50, 50};
        for (int man = 0; man < 9; man++) {
            t.due(due[man], "told", man, 1);
        }
        t.row(0, 0);
        t.onlyAsks(0, "pour", 0);
        t.call("sheet", 1, 0, 24);
        t.due(9, "pour", 1);
        t.due(0, "told", 8, 1);
        t.due(0, "alley", 4);
        t = new Trial(31).row(0, 0, 7, 8);
        t.onlyAsks(0, "pour", 0);
        t.man(MAN, 50, 0, 0);
        t.due(1, "pour", 0);
        t.due(7, "alley", 4);
    }

    /** "how many are otherwise then": what it becomes, held, may be what it was. */
    private static void pourCountsWhatIsOtherwise() {
        Trial t = new Trial(31).man(MAN, 99, 0, 0).man(MAN, 0, 0, 0).man(MAN, 50, 0, 0).man(MAN, 50, 0, 0).row(0, 0, 100, -1, 50, 51);
        t.due(1, "pour", 0);
        t.onlyAsks(0, "pour", 0);
    }

    /** "The first place .. at which a SHEET is not WEIGHT of that MAN". */
    private static void readsTheFirst() {
        for (int at = 0; at < 9; at++) {
            Trial t = new Trial(32).nine(MAN, 0, 99, 0).row(0, 0, 99, 99, 99, 99, 99, 99, 99, 99, 99);
            t.onlyAsks(NONE, "reads", 0);
            t.call("mark", 0, at, 98);
            t.call("mark", 0, 8, 98);
            t.onlyAsks(at, "reads", 0);
        }
        // 0 where a MAN weighs 0 is right, NERVE is nothing to it.
        Trial t = new Trial(32).man(MAN, 50, 0, 0).row(0, 0, 0);
        t.onlyAsks(NONE, "reads", 0);
    }

    /** "(of places that are no MAN all numbers are not)". */
    private static void readsBeyondTheMen() {
        Trial t = new Trial(32).row(0, 0, 0, 0);
        t.onlyAsks(0, "reads", 0);
        t.man(MAN, 0, 0, 0);
        t.onlyAsks(1, "reads", 0);
        t.man(MAN, 0, 0, 0);
        t.onlyAsks(NONE, "reads", 0);
        t = new Trial(32).nine(MAN, 0, 0, 0);
        t.call("sheet", 0, 1, 24);
        t.onlyAsks(9, "reads", 0);
        for (int place = 9; place < 23; place++) {
            t.call("mark", 0, place, NONE);
        }
        t.onlyAsks(23, "reads", 0);
        t.call("mark", 0, 23, NONE);
        t.onlyAsks(NONE, "reads", 0);
    }

    /** "(of numbers alone)". */
    private static void readsNumbersAlone() {
        Trial t = new Trial(32).man(MAN, 0, 5, 0).man(MAN, 0, 6, 0).row(0, 1, NONE, 7);
        t.onlyAsks(1, "reads", 0);
        t.call("mark", 0, 1, NONE);
        t.onlyAsks(NONE, "reads", 0);
    }

    /** "NONE: there is none": of no places, of fewer than MEN. */
    private static void readsNone() {
        for (int sort = 0; sort < 2; sort++) {
            Trial t = new Trial(32).row(0, sort);
            t.onlyAsks(NONE, "reads", 0);
            t.man(MAN, 0, 5, 0).man(MAN, 0, 6, 0);
            t.onlyAsks(NONE, "reads", 0);
            t.row(1, sort, 5);
            t.onlyAsks(NONE, "reads", 1);
        }
    }

    /** "So many places": none, from any place up to right behind the last one. */
    private static void copyNoPlaces() {
        Trial t = new Trial(33).row(0, 0, 1, 2, 3).row(1, 0, 4, 5).row(2, 0);
        int[][] rows = {{0, 0, 1, 0}, {0, 3, 1, 2}, {2, 0, 2, 0}, {2, 0, 0, 3}, {0, 3, 2, 0}, {1, 2, 1, 2}};
        for (int[] row : rows) {
            t.onlyAsks(0, "copy", row[0], row[1], row[2], row[3], 0);
        }
        t.refused(Due.INDEX, "copy", 0, 4, 1, 0, 0);
        t.refused(Due.INDEX, "copy", 0, 0, 1, 3, 0);
        t.refused(Due.INDEX, "copy", 2, 1, 0, 0, 0);
    }

    /** All 24, and the last alone. */
    private static void copyAllPlaces() {
        for (int sort = 0; sort < 2; sort++) {
            Trial t = new Trial(33);
            t.call("sheet", 0, sort, 24);
            t.call("sheet", 3, sort, 24);
            int[] due = new int[24];
            for (int i = 0; i < 24; i++) {
                t.call("mark", 0, i, 100 + i);
                due[i] = 100 + i;
            }
            t.refused(Due.INDEX, "copy", 0, 0, 3, 0, 25);
            t.refused(Due.INDEX, "copy", 0, 1, 3, 0, 24);
            t.refused(Due.INDEX, "copy", 0, 0, 3, 1, 24);
            t.due(24, "copy", 0, 0, 3, 0, 24);
            dueRow(t, 3, due);
            t.due(1, "copy", 0, 0, 3, 23, 1);
            t.due(1, "copy", 0, 23, 3, 0, 1);
            due[0] = 123;
            due[23] = 100;
            dueRow(t, 3, due);
        }
    }

    /** "to another one (or the same), as they were": over one another either way. */
    private static void copyAsTheyWere() {
        Trial t = new Trial(33).row(0, 0, 1, 2, 3, 4, 5);
        t.due(3, "copy", 0, 0, 0, 1, 3);
        dueRow(t, 0, 1, 1, 2, 3, 5);
        t = new Trial(33).row(0, 0, 1, 2, 3, 4, 5);
        t.due(3, "copy", 0, 1, 0, 0, 3);
        dueRow(t, 0, 2, 3, 4, 4, 5);
        t = new Trial(33).row(0, 0, 1, 2, 3, 4, 5);
        t.onlyAsks(5, "copy", 0, 0, 0, 0, 5);
        t = new Trial(33).row(0, 0, 1, 2, 3, 4, 5).row(1, 0, 6, 7);
        t.due(2, "copy", 0, 3, 1, 0, 2);
        dueRow(t, 1, 4, 5);
        dueRow(t, 0, 1, 2, 3, 4, 5);
        // What came is a row of its own.
        t.call("mark", 0, 3, 99);
        dueRow(t, 1, 4, 5);
    }

    /** "A place of floats may be NO NUMBER": that comes, too. */
    private static void copyNoNumber() {
        Trial t = new Trial(33).row(0, 1, 1, NONE, 3).row(1, 1, NONE, 5, 6);
        t.due(3, "copy", 0, 0, 1, 0, 3);
        dueRow(t, 1, 1, NONE, 3);
    }

    /** "what it held (0 .. 3)": from each thing to each. */
    private static void layTellsWhatItHeld() {
        for (int slot = 0; slot < 5; slot += 4) {
            for (int was = 0; was < 4; was++) {
                for (int is = 0; is < 4; is++) {
                    Trial t = new Trial(34).man(MAN, 0, 0, 0).row(0, 0, 5);
                    t.due(0, "lay", slot, was, 0);
                    t.due(was, "lay", slot, is, 0);
                    t.due(is, "lay", slot, is, 0);
                    t.due(is == 0 ? Due.NOTHING : is == 1 ? 0 : Due.KIND, "ask", slot, 0);
                    t.due(is == 0 ? Due.NOTHING : is == 2 ? 5 : Due.KIND, "item", slot, 0);
                    t.due(is == 0 ? Due.NOTHING : is == 3 ? 0 : Due.KIND, "rest", slot, 5);
                    t.due(Due.NOTHING, "rest", 1, 5);
                }
            }
        }
    }

    /** "thing 0 nothing, .. 3 the number k": k of any size. */
    private static void layAnyNumber() {
        int[] ks = {MIN, -1, 0, 9, MAX, Due.BAD, NONE};
        for (int k : ks) {
            Trial t = new Trial(34);
            t.due(0, "lay", 0, 3, k);
            t.due(k % 10007, "rest", 0, 10007);
            t.due(3, "lay", 0, 0, k);
            t.due(0, "lay", 0, 0, k);
        }
        // MEN and SHEETS at their bounds.
        Trial t = new Trial(34).nine(JIM, 0, 0, 0).row(3, 0, 5);
        t.due(0, "lay", 0, 1, 8);
        t.due(1, "lay", 0, 2, 3);
        t.refused(Due.BAD, "lay", 0, 1, 9);
        t.refused(Due.BAD, "lay", 0, 2, 4);
    }

    /** "a MAN (as it is then, for good)". */
    private static void manForGood() {
        Trial t = new Trial(35);
        t.call("keep");
        t.man(1, 50, 60, 0);
        t.call("set", 0, 4, 5);
        t.due(0, "lay", 0, 1, 0);
        t.call("set", 0, 2, 0);
        t.call("set", 0, 4, 0);
        t.call("turns", 0, JIM);
        t.due(65, "ask", 0, 0);
        t.due(65, "ask", 0, 1);
        t.due(Due.KIND, "ask", 0, 5);
        t.due(0, "back");
        t.due(65, "ask", 0, 0);
        // No man is needed any more.
        t.due(0, "count", 0);
        t.due(65, "ask", 0, 1);
    }

    /** "a SHEET (a row of its own, as it was then)". */
    private static void rowOfItsOwn() {
        Trial t = new Trial(36).row(0, 1, 5, NONE, 7);
        t.due(0, "lay", 0, 2, 0);
        t.due(0, "lay", 1, 2, 0);
        t.call("mark", 0, 0, 6);
        t.call("mark", 0, 1, 6);
        t.due(5, "item", 0, 0);
        t.due(Due.KIND, "item", 0, 1);
        t.call("sheet", 0, 0, 24);
        t.due(7, "item", 0, 2);
        t.due(Due.INDEX, "item", 0, 3);
        t.call("sheet", 0, -1, 0);
        t.due(7, "item", 0, 2);
        t.due(7, "item", 1, 2);
        t.due(2, "lay", 0, 0, 0);
        t.due(Due.NOTHING, "item", 0, 2);
        t.due(7, "item", 1, 2);
        // A row of no places is a row.
        t.row(2, 0);
        t.due(0, "lay", 0, 2, 2);
        t.due(Due.INDEX, "item", 0, 0);
        t.due(Due.KIND, "rest", 0, 1);
        t.due(2, "lay", 0, 0, 0);
    }

    /** "WORTH of the MAN in a SLOT, taken for one of a KIND (0 .. 5)". */
    private static void askOfEachKind() {
        String[] of = {"0", "01", "02", "013", "024", "05"};
        int[] worth = {9, 29, 69, 145, 34, 500};
        for (int kind = 0; kind < 6; kind++) {
            Trial t = new Trial(35).man(kind, 30, 20, 0);
            t.call("set", 0, 4, 9);
            t.call("lay", 4, 1, 0);
            for (int as = 0; as < 6; as++) {
                t.onlyAsks(of[kind].indexOf('0' + as) >= 0 ? worth[kind] : Due.KIND, "ask", 4, as);
            }
        }
    }

    /** "A place of the SHEET in a SLOT": the first and the last, the least and the most. */
    private static void itemAtTheBounds() {
        Trial t = new Trial(36);
        t.call("sheet", 0, 0, 24);
        t.call("mark", 0, 0, -32768);
        t.call("mark", 0, 23, 32767);
        t.call("sheet", 1, 1, 24);
        t.call("mark", 1, 0, -99999);
        t.call("mark", 1, 23, 99999);
        t.call("lay", 0, 2, 0);
        t.call("lay", 4, 2, 1);
        t.onlyAsks(-32768, "item", 0, 0);
        t.onlyAsks(32767, "item", 0, 23);
        t.refused(Due.INDEX, "item", 0, 24);
        t.onlyAsks(-99999, "item", 4, 0);
        t.onlyAsks(99999, "item", 4, 23);
        t.refused(Due.INDEX, "item", 4, 24);
    }

    /** "The rest of the number in a SLOT by n": / cuts towards 0, so it has the number's sign; the least int by -1 is no fault. */
    private static void restOfWraps() {
        int[][] rows = {{7, 3, 1}, {-7, 3, -1}, {7, -3, 1}, {-7, -3, -1}, {0, 5, 0}, {5, 1, 0}, {5, -1, 0}, {MIN, -1, 0}, {MIN, 1, 0}, {MIN, MIN, 0},
            {MAX, MIN, MAX}, {MIN, MAX, -1}, {MAX, -1, 0}, {4, 5, 4}, {-4, 5, -4}};
        for (int[] row : rows) {
            Trial t = new Trial(37);
            t.call("lay", 4, 3, row[0]);
            t.onlyAsks(row[2], "rest", 4, row[1]);
            t.refused(Due.NO, "rest", 4, 0);
        }
    }
}
