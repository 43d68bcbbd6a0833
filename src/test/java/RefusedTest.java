/**
 * Every refused call of promises 2 to 42: what it answers, at the first number beyond each bound and far out; which of several
 * refusals stands first; and that nothing changes by it (but the tape by text, the numbers that wait by check).
 */
public final class RefusedTest {
    private static final int BAD = Due.BAD, NO = Due.NO, FULL = Due.FULL, NONE = Due.NONE;
    private static final int NOTHING = Due.NOTHING, KIND = Due.KIND, INDEX = Due.INDEX, SIZE = Due.SIZE;
    private static final int MIN = Trial.MIN, MAX = Trial.MAX;

    public static void main(String[] args) {
        man();
        toldBearsAsTurns();
        set();
        says();
        dealGoesAlley();
        best();
        pairAndClear();
        force();
        behindFallsBecomes();
        like();
        fine();
        feedAndTrim();
        textOfAFault();
        textWhenFull();
        textToldAndWhy();
        sheet();
        mark();
        pourAndReads();
        copy();
        lay();
        ask();
        item();
        rest();
        tell();
        check();
        backAndCount();
        Due.end();
    }

    /** Promise 2: "BAD; FULL." */
    private static void man() {
        Trial t = Trial.house(2);
        t.badBeyond(0, 0, 5, "man", 0, 30, 60, 2);
        t.badBeyond(1, 0, 99, "man", 0, 30, 60, 2);
        t.badBeyond(2, 0, 99, "man", 0, 30, 60, 2);
        t.badBeyond(3, 0, 7, "man", 0, 30, 60, 2);
        t.call("deal", 3);
        t.refused(FULL, "man", 0, 30, 60, 2);
        t.refused(FULL, "man", 5, 99, 99, 7);
        t.badBeyond(0, 0, 5, "man", 0, 30, 60, 2);
        t.badBeyond(3, 0, 7, "man", 0, 30, 60, 2);
    }

    /** Promises 3 to 6. */
    private static void toldBearsAsTurns() {
        Trial t = Trial.house(3);
        t.badBeyond(0, 0, 5, "told", 0, 0);
        t.badBeyond(1, 0, 7, "told", 0, 0);
        new Trial(3).refused(BAD, "told", 0, 0);
        t = Trial.house(4);
        t.badBeyond(0, 0, 5, "bears", 0, 0);
        t.badBeyond(1, 0, 7, "bears", 0, 0);
        new Trial(4).refused(BAD, "bears", 0, 0);
        t = Trial.house(5);
        t.badBeyond(0, 0, 5, "as", 0, 0);
        t.badBeyond(1, 0, 5, "as", 0, 0);
        new Trial(5).refused(BAD, "as", 0, 0);
        // "KIND: it is not of that KIND, nor of one under it."
        String[] of = {"0", "01", "02", "013", "024", "05"};
        for (int man = 0; man < 6; man++) {
            for (int kind = 0; kind < 6; kind++) {
                if (of[man].indexOf('0' + kind) < 0) {
                    t.refused(KIND, "as", man, kind);
                }
            }
        }
        t = Trial.house(6);
        t.badBeyond(0, 0, 5, "turns", 0, 3);
        t.badBeyond(1, 0, 5, "turns", 0, 3);
        new Trial(6).refused(BAD, "turns", 0, 0);
    }

    /** Promise 7: v has the bounds of what it becomes. */
    private static void set() {
        Trial t = Trial.house(7);
        t.badBeyond(0, 0, 5, "set", 0, 1, 1);
        t.badBeyond(1, 1, 5, "set", 0, 1, 1);
        int[] most = {0, 99, 99, 7, 9999, 1};
        for (int what = 1; what <= 5; what++) {
            t.badBeyond(2, 0, most[what], "set", 0, what, 0);
        }
        t.refused(BAD, "set", 1, 5, 2);
        new Trial(7).refused(BAD, "set", 0, 1, 1);
    }

    /** Promise 8: "BAD; NO: it doesn't STAND." */
    private static void says() {
        Trial t = Trial.house(8);
        t.badBeyond(0, 0, 5, "says", 0, 2, 99, 0);
        t.badBeyond(1, 0, 7, "says", 0, 2, 99, 0);
        t.badBeyond(2, 0, 99, "says", 0, 2, 99, 0);
        t.badBeyond(3, -1, 1, "says", 0, 2, 99, 0);
        t.refused(NO, "says", 1, 2, 99, 0);
        t.refused(NO, "says", 1, 2, 0, 0);
        t.badBeyond(1, 0, 7, "says", 1, 2, 99, 0);
        t.badBeyond(2, 0, 99, "says", 1, 2, 99, 0);
        t.badBeyond(3, -1, 1, "says", 1, 2, 99, 0);
        new Trial(8).refused(BAD, "says", 0, 0, 99, 0);
    }

    /** Promises 10, 12, 13. */
    private static void dealGoesAlley() {
        Trial t = Trial.house(10);
        t.badBeyond(0, 1, 9, "deal", 1);
        t.call("deal", 3);
        t.badBeyond(0, 1, 9, "deal", 1);
        t = Trial.house(12);
        t.badBeyond(0, 1, 100, "goes", 1);
        t = Trial.house(13);
        t.badBeyond(0, 0, 5, "alley", 0);
        // "NONE: (what 5) there are no MEN": of any other what there is an answer.
        t = new Trial(13);
        t.refused(NONE, "alley", 5);
        t.badBeyond(0, 0, 5, "alley", 0);
        for (int what = 0; what < 5; what++) {
            t.onlyAsks(0, "alley", what);
        }
    }

    private static void allDown(Trial t, int men) {
        for (int man = 0; man < men; man++) {
            t.call("set", man, 5, 1);
        }
    }

    /** Promise 14: "BAD; NONE: none STANDS." */
    private static void best() {
        Trial t = Trial.house(14);
        t.badBeyond(0, 0, 99, "best", 50, 0);
        t.badBeyond(1, 0, 3, "best", 50, 0);
        allDown(t, 6);
        for (int what = 0; what < 4; what++) {
            t.refused(NONE, "best", 99, what);
        }
        t.badBeyond(0, 0, 99, "best", 50, 0);
        t.badBeyond(1, 0, 3, "best", 50, 0);
        new Trial(14).refused(NONE, "best", 0, 0);
    }

    /** Promises 15, 16. */
    private static void pairAndClear() {
        Trial t = Trial.house(15);
        t.badBeyond(0, 0, 99, "pair", 50);
        new Trial(15).badBeyond(0, 0, 99, "pair", 50);
        // "BAD; NONE: by none": JIM never falls; but where none STANDS no saying is enough.
        t = Trial.house(16);
        t.badBeyond(0, 0, 99, "clear", 50);
        t.refused(NONE, "clear", 99);
        t.refused(NONE, "clear", 0);
        allDown(t, 6);
        t.onlyAsks(0, "clear", 0);
        t.badBeyond(0, 0, 99, "clear", 50);
        new Trial(16).badBeyond(0, 0, 99, "clear", 50);
    }

    /** Promise 17: "BAD; NO: it doesn't STAND; NONE: with none." */
    private static void force() {
        Trial t = Trial.house(17);
        t.badBeyond(0, 0, 5, "force", 0, 0);
        t.badBeyond(1, 0, 7, "force", 0, 0);
        t.refused(NO, "force", 1, 0);
        t.badBeyond(1, 0, 7, "force", 1, 0);
        t.refused(NONE, "force", 5, 0);
        t.refused(NONE, "force", 2, 0);
        t.call("set", 5, 5, 1);
        t.refused(NO, "force", 5, 0);
        new Trial(17).refused(BAD, "force", 0, 0);
    }

    /** Promises 18 to 20. */
    private static void behindFallsBecomes() {
        Trial t = Trial.house(18);
        t.badBeyond(0, 0, 100, "behind", 1, 0);
        // "BAD: 3 and k of no MAN, too."
        t.badBeyond(1, 0, 8, "behind", 1, 0);
        new Trial(18).badBeyond(1, 0, 2, "behind", 1, 0);
        t = Trial.house(19);
        t.badBeyond(0, 0, 5, "falls", 0);
        t.refused(NONE, "falls", 5);
        new Trial(19).refused(BAD, "falls", 0);
        t = Trial.house(20);
        t.badBeyond(0, 0, 5, "becomes", 0, 9, 0);
        t.badBeyond(1, 1, 60, "becomes", 0, 9, 0);
        t.badBeyond(2, 0, 1, "becomes", 0, 9, 0);
        new Trial(20).refused(BAD, "becomes", 0, 1, 0);
    }

    /** Promise 21: "BAD; NOTHING; NONE: there are no MEN." */
    private static void like() {
        Trial t = Trial.house(21);
        t.badBeyond(0, 0, 3, "like", 0, 0);
        t.badBeyond(1, 0, 1, "like", 0, 0);
        t.refused(NOTHING, "like", 3, 0);
        t.badBeyond(1, 0, 1, "like", 3, 0);
        t = new Trial(21).row(0, 0, 5);
        t.refused(NONE, "like", 0, 0);
        t.refused(NONE, "like", 0, 1);
        t.refused(NOTHING, "like", 1, 0);
        t.badBeyond(1, 0, 1, "like", 0, 0);
    }

    /** Promise 23. */
    private static void fine() {
        Trial.house(23).badBeyond(0, 0, 5, "fine", 0);
        new Trial(23).refused(BAD, "fine", 0);
    }

    /** Promises 24 and 25. */
    private static void feedAndTrim() {
        Trial t = Trial.house(24);
        for (int i = 1; i < 8; i++) {
            t.due(12 + 12 * i, "feed", 0x20202020, 0x20202020, 0x20202020);
        }
        t.refused(FULL, "feed", 0x31313131, 0x31313131, 0x31313131);
        t.call("trim", 85);
        t.refused(FULL, "feed", 0x31313131, 0x31313131, 0x31313131);
        t = Trial.house(25);
        t.badBeyond(0, 0, 12, "trim", 5);
        new Trial(25).badBeyond(0, 0, 0, "trim", 0);
    }

    /** Promise 26: "-100 less the place of its FAULT", "an act that reads it uses it up, whatever it answers". */
    private static void textOfAFault() {
        Trial t = Trial.house(26);
        t.put("bears )");
        t.refusedWithTape(-106, "text");
        t.put("fee f+1+");
        t.refusedWithTape(-108, "text");
        t.put("fine n f");
        t.refusedWithTape(-107, "text");
        t.refusedWithTape(-100, "text");
        new Trial(26).refusedWithTape(-100, "text");
    }

    /** Promise 26: FULL, behind a FAULT. */
    private static void textWhenFull() {
        Trial t = Trial.house(26);
        for (int i = 2; i < 14; i++) {
            t.text("fee 1");
        }
        t.due(14, "count", 3);
        t.put("bears 50");
        t.refusedWithTape(FULL, "text");
        t.put("fee 2");
        t.refusedWithTape(FULL, "text");
        t.put("fee (2");
        t.refusedWithTape(-106, "text");
        t.refusedWithTape(-100, "text");
    }

    /** Promises 27 and 28. */
    private static void textToldAndWhy() {
        Trial t = Trial.house(27);
        t.badBeyond(0, 0, 1, "textTold", 0, 0);
        t.badBeyond(1, 0, 1, "textTold", 0, 0);
        new Trial(27).refused(BAD, "textTold", 0, 0);
        t = Trial.house(28);
        t.badBeyond(0, 0, 2, "why", 1);
        t.refused(NONE, "why", 0);
        for (int key = 0; key < 3; key++) {
            new Trial(28).refused(NONE, "why", key);
        }
    }

    /** Promise 29: "BAD: sheet, sort, n above 24; SIZE." */
    private static void sheet() {
        Trial t = Trial.house(29);
        t.badBeyond(0, 0, 3, "sheet", 0, 0, 3);
        t.badBeyond(0, 0, 3, "sheet", 0, -1, 0);
        t.badBeyond(1, -1, 1, "sheet", 0, 0, 3);
        for (int sort = 0; sort < 2; sort++) {
            t.refused(BAD, "sheet", 0, sort, 25);
            t.refused(BAD, "sheet", 0, sort, MAX);
            t.refused(SIZE, "sheet", 0, sort, -1);
            t.refused(SIZE, "sheet", 3, sort, MIN);
        }
        t.badBeyond(0, 0, 3, "sheet", 0, 0, -1);
        t.badBeyond(1, -1, 1, "sheet", 0, 0, -1);
    }

    /** Promise 30: "BAD: sheet; NOTHING; INDEX; KIND: NONE in a row of shorts; BAD: v of floats." */
    private static void mark() {
        Trial t = Trial.house(30);
        t.badBeyond(0, 0, 3, "mark", 0, 0, 1);
        t.badBeyond(0, 0, 3, "mark", 0, -1, NONE);
        t.refused(NOTHING, "mark", 3, 0, 1);
        t.refused(NOTHING, "mark", 3, -1, NONE);
        int[] sizes = {6, 5, 0};
        for (int sheet = 0; sheet < 3; sheet++) {
            int[] beyond = {-1, sizes[sheet], MIN, MAX};
            for (int place : beyond) {
                t.refused(INDEX, "mark", sheet, place, 1);
                t.refused(INDEX, "mark", sheet, place, sheet == 1 ? MAX : NONE);
            }
        }
        t.refused(KIND, "mark", 0, 0, NONE);
        t.refused(KIND, "mark", 0, 5, NONE);
        t.badBeyond(2, -99999, 99999, "mark", 1, 0, 1);
        t.badBeyond(2, -99999, 99999, "mark", 1, 1, 1);
        t.refused(BAD, "mark", 1, 0, NONE - 1);
        t.refused(BAD, "mark", 1, 0, NONE + 1);
    }

    /** Promises 31 and 32: "BAD; NOTHING", and of 32 NONE. */
    private static void pourAndReads() {
        Trial t = Trial.house(31);
        t.badBeyond(0, 0, 3, "pour", 0);
        t.refused(NOTHING, "pour", 3);
        t = Trial.house(32);
        t.badBeyond(0, 0, 3, "reads", 0);
        t.refused(NOTHING, "reads", 3);
        t.refused(NONE, "reads", 2);
    }

    /** Promise 33: "BAD; NOTHING; KIND: they are not of one sort; INDEX." */
    private static void copy() {
        Trial t = Trial.house(33);
        t.badBeyond(0, 0, 3, "copy", 0, 0, 0, 1, 2);
        t.badBeyond(2, 0, 3, "copy", 0, 0, 0, 1, 2);
        t.badBeyond(0, 0, 3, "copy", 0, -1, 3, -1, -1);
        t.badBeyond(2, 0, 3, "copy", 3, -1, 0, -1, -1);
        t.refused(NOTHING, "copy", 3, 0, 0, 0, 0);
        t.refused(NOTHING, "copy", 0, 0, 3, 0, 0);
        t.refused(NOTHING, "copy", 3, -1, 3, -1, -1);
        t.refused(NOTHING, "copy", 1, 99, 3, -1, -1);
        t.refused(KIND, "copy", 0, 0, 1, 0, 1);
        t.refused(KIND, "copy", 1, 0, 0, 0, 1);
        t.refused(KIND, "copy", 1, 0, 2, 0, 0);
        t.refused(KIND, "copy", 0, -1, 1, 99, -1);
        int[] far = {-1, 7, MIN, MAX};
        for (int v : far) {
            t.refused(INDEX, "copy", 0, v, 0, 0, 0);
            t.refused(INDEX, "copy", 0, 0, 0, v, 0);
            t.refused(INDEX, "copy", 0, 0, 0, 0, v);
        }
        t.refused(INDEX, "copy", 0, 6, 0, 0, 1);
        t.refused(INDEX, "copy", 0, 0, 0, 6, 1);
        t.refused(INDEX, "copy", 0, 2, 0, 0, 5);
        t.refused(INDEX, "copy", 0, 0, 0, 2, 5);
        t.refused(INDEX, "copy", 0, 0, 2, 0, 1);
        t.refused(INDEX, "copy", 2, 0, 0, 0, 1);
        t.refused(INDEX, "copy", 0, MAX, 0, MAX, MAX);
        t.refused(INDEX, "copy", 0, 1, 0, 0, MAX);
        t.refused(INDEX, "copy", 0, 0, 0, 1, MAX);
        t.refused(INDEX, "copy", 1, 0, 1, 1, 5);
    }

    /** Promise 34: "BAD: slot, thing, k; NOTHING: that SHEET is MISSING." */
    private static void lay() {
        Trial t = Trial.house(34);
        t.badBeyond(0, 0, 4, "lay", 0, 3, 5);
        t.badBeyond(1, 0, 3, "lay", 0, 3, 1);
        t.badBeyond(2, 0, 5, "lay", 0, 1, 0);
        t.badBeyond(2, 0, 3, "lay", 0, 2, 0);
        for (int slot = 0; slot < 5; slot++) {
            t.refused(NOTHING, "lay", slot, 2, 3);
        }
        t.badBeyond(0, 0, 4, "lay", 0, 2, 3);
        new Trial(34).refused(BAD, "lay", 0, 1, 0);
    }

    /** Promise 35: "BAD; NOTHING; KIND: it is no MAN, or not of that KIND, nor of one under it." */
    private static void ask() {
        Trial t = Trial.house(35);
        t.badBeyond(0, 0, 4, "ask", 0, 0);
        t.badBeyond(1, 0, 5, "ask", 0, 0);
        t.badBeyond(1, 0, 5, "ask", 4, 0);
        t.badBeyond(1, 0, 5, "ask", 1, 0);
        t.refused(NOTHING, "ask", 4, 0);
        t.refused(KIND, "ask", 1, 0);
        t.refused(KIND, "ask", 2, 0);
        t.refused(KIND, "ask", 0, 2);
        t.refused(KIND, "ask", 0, 4);
        t.refused(KIND, "ask", 0, 5);
    }

    /** Promise 36: "BAD: slot; NOTHING; KIND: it is no SHEET; INDEX; KIND: NO NUMBER." */
    private static void item() {
        Trial t = Trial.house(36);
        t.badBeyond(0, 0, 4, "item", 1, 0);
        t.badBeyond(0, 0, 4, "item", 1, -1);
        t.refused(NOTHING, "item", 4, 0);
        t.refused(NOTHING, "item", 4, -1);
        t.refused(KIND, "item", 0, 0);
        t.refused(KIND, "item", 0, -1);
        t.refused(KIND, "item", 2, 0);
        t.refused(KIND, "item", 2, MAX);
        int[] shorts = {-1, 6, MIN, MAX};
        for (int place : shorts) {
            t.refused(INDEX, "item", 1, place);
        }
        t.refused(INDEX, "item", 3, 5);
        t.refused(INDEX, "item", 3, -1);
        t.refused(KIND, "item", 3, 1);
    }

    /** Promise 37: "BAD: slot; NOTHING; KIND: it is no number; NO: n is 0." */
    private static void rest() {
        Trial t = Trial.house(37);
        t.badBeyond(0, 0, 4, "rest", 2, 5);
        t.badBeyond(0, 0, 4, "rest", 2, 0);
        t.refused(NOTHING, "rest", 4, 5);
        t.refused(NOTHING, "rest", 4, 0);
        t.refused(KIND, "rest", 0, 5);
        t.refused(KIND, "rest", 0, 0);
        t.refused(KIND, "rest", 1, 5);
        t.refused(KIND, "rest", 1, 0);
        t.refused(NO, "rest", 2, 0);
    }

    /** Promise 38: "FULL: 60 wait." */
    private static void tell() {
        Trial t = new Trial(38).man(0, 30, 60, 2);
        t.call("keep");
        Trial.tellGoes(t, 30);
        t.refused(FULL, "tell", 1);
        t.refused(FULL, "tell", MIN);
        t.onlyAsks(60, "count", 4);
    }

    /** Promise 39: "BAD; NO: there is no IMAGE", "none do then, whatever is answered". */
    private static void check() {
        int[] beyond = {0, 31, MIN, MAX, -1};
        for (int n : beyond) {
            Trial.house(39).refusedWithNumbers(BAD, "check", n);
            Trial t = new Trial(39).man(0, 30, 60, 2);
            t.call("tell", 1);
            t.refusedWithNumbers(BAD, "check", n);
        }
        int[] within = {1, 2, 30};
        for (int n : within) {
            Trial t = new Trial(39).man(0, 30, 60, 2);
            t.call("tell", 1);
            t.refusedWithNumbers(NO, "check", n);
            t.due(0, "count", 4);
        }
        // What is answered when it is not refused uses the numbers up, too.
        Trial.house(39).refusedWithNumbers(0, "check", 2);
        Trial.house(39).refusedWithNumbers(5, "check", 3);
        Trial.house(39).refusedWithNumbers(3, "check", 1);
    }

    /** Promises 41 and 42. */
    private static void backAndCount() {
        Trial t = new Trial(41).man(0, 30, 60, 2);
        t.refused(NO, "back");
        new Trial(41).refused(NO, "back");
        Trial.house(42).badBeyond(0, 0, 6, "count", 0);
    }
}
