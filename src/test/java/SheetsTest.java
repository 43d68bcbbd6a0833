/** Promises 29 to 37. */
public final class SheetsTest {
    private static final int MIN = Integer.MIN_VALUE, MAX = Integer.MAX_VALUE;

    public static void main(String[] args) {
        sheet();
        mark();
        pour();
        reads();
        copy();
        copyRefused();
        lay();
        ask();
        item();
        rest();
        Due.end();
    }

    /** A place of a sheet, by way of slot 4. */
    private static int place(SkittleMen x, int sheet, int place) {
        x.lay(4, 2, sheet);
        return x.item(4, place);
    }

    private static void sheet() {
        SkittleMen x = new SkittleMen();
        Due.due(29, "sheet(0, 0, 24)", 24, x.sheet(0, 0, 24));
        Due.due(29, "sheet(3, 1, 0)", 0, x.sheet(3, 1, 0));
        Due.due(29, "sheet 4", Due.BAD, x.sheet(4, 0, 1));
        Due.due(29, "sheet -1", Due.BAD, x.sheet(-1, 0, 1));
        Due.due(29, "sort 2", Due.BAD, x.sheet(0, 2, 1));
        Due.due(29, "sort -2", Due.BAD, x.sheet(0, -2, 1));
        Due.due(29, "n 25", Due.BAD, x.sheet(0, 0, 25));
        Due.due(29, "n -1", Due.SIZE, x.sheet(0, 0, -1));
        Due.due(29, "n MIN", Due.SIZE, x.sheet(0, 1, MIN));
        Due.due(29, "n -1, bad sort", Due.BAD, x.sheet(0, 2, -1));
        Due.due(29, "refused: it stays", 1, x.mark(0, 23, 7));
        Due.due(29, "made anew", 24, x.sheet(0, 0, 24));
        Due.due(29, "all 0", 0, place(x, 0, 23));
        Due.due(29, "missing", 0, x.sheet(0, -1, 99));
        Due.due(29, "missing", Due.NOTHING, x.mark(0, 0, 0));
        Due.due(29, "missing again, n below 0", 0, x.sheet(0, -1, MIN));
        Due.due(29, "missing, bad sheet", Due.BAD, x.sheet(4, -1, 0));
    }

    private static void mark() {
        SkittleMen x = new SkittleMen();
        Due.due(30, "missing", Due.NOTHING, x.mark(0, 99, Due.NONE));
        Due.due(30, "sheet 4", Due.BAD, x.mark(4, 0, 0));
        Due.due(30, "sheet -1", Due.BAD, x.mark(-1, 0, 0));
        x.sheet(0, 0, 3);
        x.sheet(1, 1, 3);
        Due.due(30, "place 3", Due.INDEX, x.mark(0, 3, Due.NONE));
        Due.due(30, "place -1", Due.INDEX, x.mark(1, -1, MAX));
        Due.due(30, "no number among shorts", Due.KIND, x.mark(0, 0, Due.NONE));
        Due.due(30, "floats above", Due.BAD, x.mark(1, 0, 100000));
        Due.due(30, "floats below", Due.BAD, x.mark(1, 0, -100000));
        Due.due(30, "refused: 0", 0, place(x, 1, 0));
        int[][] shorts = {{32767, 32767}, {32768, -32768}, {65535, -1}, {MIN, 0}, {MAX, -1}, {-32769, 32767}, {100000, -31072}};
        for (int[] row : shorts) {
            Due.due(30, "mark shorts " + row[0], 1, x.mark(0, 2, row[0]));
            Due.due(30, "shorts " + row[0], row[1], place(x, 0, 2));
        }
        int[] floats = {99999, -99999, 0, 40000};
        for (int v : floats) {
            Due.due(30, "mark floats " + v, 1, x.mark(1, 2, v));
            Due.due(30, "floats " + v, v, place(x, 1, 2));
        }
        Due.due(30, "mark no number", 1, x.mark(1, 2, Due.NONE));
        Due.due(30, "no number", Due.KIND, place(x, 1, 2));
        Due.due(30, "a number again", 1, x.mark(1, 2, 5));
        Due.due(30, "a number again", 5, place(x, 1, 2));
    }

    private static void pour() {
        SkittleMen x = new SkittleMen();
        Due.due(31, "sheet 4", Due.BAD, x.pour(4));
        Due.due(31, "sheet -1", Due.BAD, x.pour(-1));
        Due.due(31, "missing", Due.NOTHING, x.pour(0));
        x.sheet(0, 1, 6);
        Due.due(31, "no men", 0, x.pour(0));
        for (int i = 0; i < 7; i++) {
            x.man(0, 10, 0, 0);
        }
        int[] v = {10, 11, -1, 100, Due.NONE, 99};
        for (int i = 0; i < 6; i++) {
            x.mark(0, i, v[i]);
        }
        Due.due(31, "pour", 4, x.pour(0));
        int[] due = {10, 11, 0, 99, 10, 99, 10};
        for (int i = 0; i < 7; i++) {
            Due.due(31, "nerve of " + i, due[i], x.told(i, 1));
        }
        Due.due(31, "pour again", 0, x.pour(0));
        x.sheet(1, 0, 24);
        Due.due(31, "pour a longer one", 6, x.pour(1));
    }

    private static void reads() {
        SkittleMen x = new SkittleMen();
        Due.due(32, "sheet 4", Due.BAD, x.reads(4));
        Due.due(32, "sheet -1", Due.BAD, x.reads(-1));
        Due.due(32, "missing", Due.NOTHING, x.reads(0));
        x.sheet(0, 1, 4);
        Due.due(32, "no men", 0, x.reads(0));
        x.man(0, 0, 7, 0);
        x.man(0, 0, 0, 0);
        Due.due(32, "at 0", 0, x.reads(0));
        x.mark(0, 0, 7);
        Due.due(32, "beyond the men", 2, x.reads(0));
        x.mark(0, 2, Due.NONE);
        Due.due(32, "beyond the men, numbers alone", 3, x.reads(0));
        x.mark(0, 3, Due.NONE);
        Due.due(32, "none", Due.NONE, x.reads(0));
        x.mark(0, 0, Due.NONE);
        x.mark(0, 1, 1);
        Due.due(32, "numbers alone", 1, x.reads(0));
        x.sheet(1, 0, 0);
        Due.due(32, "no places", Due.NONE, x.reads(1));
        x.sheet(1, 0, 1);
        x.mark(1, 0, 7);
        Due.due(32, "fewer places than men", Due.NONE, x.reads(1));
    }

    private static void copy() {
        SkittleMen x = new SkittleMen();
        x.sheet(0, 0, 5);
        x.sheet(1, 0, 5);
        for (int i = 0; i < 5; i++) {
            x.mark(0, i, i + 1);
        }
        Due.due(33, "copy", 2, x.copy(0, 1, 1, 3, 2));
        int[] due = {0, 0, 0, 2, 3};
        for (int i = 0; i < 5; i++) {
            Due.due(33, "place " + i, due[i], place(x, 1, i));
            Due.due(33, "from stays", i + 1, place(x, 0, i));
        }
        Due.due(33, "onto itself, forth", 4, x.copy(0, 0, 0, 1, 4));
        int[] forth = {1, 1, 2, 3, 4};
        for (int i = 0; i < 5; i++) {
            Due.due(33, "forth " + i, forth[i], place(x, 0, i));
        }
        Due.due(33, "onto itself, back", 4, x.copy(0, 1, 0, 0, 4));
        int[] back = {1, 2, 3, 4, 4};
        for (int i = 0; i < 5; i++) {
            Due.due(33, "back " + i, back[i], place(x, 0, i));
        }
        Due.due(33, "none", 0, x.copy(0, 5, 1, 5, 0));
        x.sheet(2, 1, 2);
        x.mark(2, 0, Due.NONE);
        Due.due(33, "no number", 1, x.copy(2, 0, 2, 1, 1));
        Due.due(33, "no number comes", Due.KIND, place(x, 2, 1));
    }

    private static void copyRefused() {
        SkittleMen x = new SkittleMen();
        x.sheet(0, 0, 5);
        x.sheet(1, 0, 3);
        x.sheet(2, 1, 5);
        Due.due(33, "from 4", Due.BAD, x.copy(4, 0, 0, 0, 1));
        Due.due(33, "from -1", Due.BAD, x.copy(-1, 0, 3, 0, 1));
        Due.due(33, "to 4", Due.BAD, x.copy(3, 0, 4, 0, 1));
        Due.due(33, "to -1", Due.BAD, x.copy(0, 0, -1, 0, 1));
        Due.due(33, "from a missing one", Due.NOTHING, x.copy(3, 9, 0, 0, 1));
        Due.due(33, "to a missing one", Due.NOTHING, x.copy(2, 0, 3, 9, 1));
        Due.due(33, "sorts", Due.KIND, x.copy(0, 9, 2, 0, 1));
        Due.due(33, "sorts, none", Due.KIND, x.copy(2, 0, 0, 0, 0));
        Due.due(33, "place -1", Due.INDEX, x.copy(0, -1, 1, 0, 1));
        Due.due(33, "at -1", Due.INDEX, x.copy(0, 0, 1, -1, 1));
        Due.due(33, "many -1", Due.INDEX, x.copy(0, 0, 1, 0, -1));
        Due.due(33, "from beyond", Due.INDEX, x.copy(0, 4, 1, 0, 2));
        Due.due(33, "to beyond", Due.INDEX, x.copy(0, 0, 1, 2, 2));
        Due.due(33, "far out", Due.INDEX, x.copy(0, MAX, 1, MAX, MAX));
        Due.due(33, "far below", Due.INDEX, x.copy(0, MIN, 1, MIN, MIN));
        Due.due(33, "none from beyond", Due.INDEX, x.copy(0, 6, 1, 0, 0));
    }

    private static void lay() {
        SkittleMen x = new SkittleMen();
        x.man(0, 0, 0, 0);
        x.sheet(1, 0, 1);
        Due.due(34, "slot 5", Due.BAD, x.lay(5, 0, 0));
        Due.due(34, "slot -1", Due.BAD, x.lay(-1, 0, 0));
        Due.due(34, "thing 4", Due.BAD, x.lay(0, 4, 0));
        Due.due(34, "thing -1", Due.BAD, x.lay(0, -1, 0));
        Due.due(34, "no such man", Due.BAD, x.lay(0, 1, 1));
        Due.due(34, "man -1", Due.BAD, x.lay(0, 1, -1));
        Due.due(34, "sheet 4", Due.BAD, x.lay(0, 2, 4));
        Due.due(34, "sheet -1", Due.BAD, x.lay(0, 2, -1));
        Due.due(34, "missing", Due.NOTHING, x.lay(0, 2, 0));
        Due.due(34, "refused: nothing", 0, x.lay(0, 1, 0));
        Due.due(34, "a man", 1, x.lay(0, 2, 1));
        Due.due(34, "missing", Due.NOTHING, x.lay(0, 2, 0));
        Due.due(34, "a sheet", 2, x.lay(0, 3, MIN));
        Due.due(34, "a number", 3, x.lay(0, 0, MAX));
        Due.due(34, "nothing", 0, x.lay(0, 0, MIN));
        Due.due(34, "the last slot", 0, x.lay(4, 3, 1));
        Due.due(34, "the last slot", 3, x.lay(4, 3, 1));
    }

    private static void ask() {
        SkittleMen x = new SkittleMen();
        Due.due(35, "nothing", Due.NOTHING, x.ask(0, 0));
        Due.due(35, "slot 5", Due.BAD, x.ask(5, 0));
        Due.due(35, "slot -1", Due.BAD, x.ask(-1, 0));
        Due.due(35, "kind 6", Due.BAD, x.ask(0, 6));
        Due.due(35, "kind -1", Due.BAD, x.ask(0, -1));
        x.lay(0, 3, 0);
        Due.due(35, "a number", Due.KIND, x.ask(0, 0));
        x.sheet(0, 0, 1);
        x.lay(0, 2, 0);
        Due.due(35, "a sheet", Due.KIND, x.ask(0, 0));
        x.man(3, 20, 90, 0);
        x.lay(0, 1, 0);
        int[] due = {450, 450, Due.KIND, 450, Due.KIND, Due.KIND};
        for (int kind = 0; kind < 6; kind++) {
            Due.due(35, "a king as " + kind, due[kind], x.ask(0, kind));
        }
        x.set(0, 2, 0);
        x.set(0, 4, 100);
        x.turns(0, 4);
        Due.due(35, "as it was then", 450, x.ask(0, 3));
        x.lay(1, 1, 0);
        Due.due(35, "an elder", 39, x.ask(1, 2));
        Due.due(35, "an elder", Due.KIND, x.ask(1, 1));
        x.keep();
        x.lay(2, 1, 0);
        x.set(0, 1, 99);
        x.lay(3, 1, 0);
        x.back();
        Due.due(41, "slots stay by back", 0, x.ask(3, 0));
    }

    private static void item() {
        SkittleMen x = new SkittleMen();
        Due.due(36, "slot 5", Due.BAD, x.item(5, 0));
        Due.due(36, "slot -1", Due.BAD, x.item(-1, 0));
        Due.due(36, "nothing", Due.NOTHING, x.item(0, -1));
        x.lay(0, 3, 0);
        Due.due(36, "a number", Due.KIND, x.item(0, -1));
        x.man(0, 0, 0, 0);
        x.lay(0, 1, 0);
        Due.due(36, "a man", Due.KIND, x.item(0, 0));
        x.sheet(0, 1, 3);
        x.mark(0, 1, -5);
        x.mark(0, 2, Due.NONE);
        x.lay(0, 2, 0);
        Due.due(36, "place 0", 0, x.item(0, 0));
        Due.due(36, "place 1", -5, x.item(0, 1));
        Due.due(36, "no number", Due.KIND, x.item(0, 2));
        Due.due(36, "place 3", Due.INDEX, x.item(0, 3));
        Due.due(36, "place -1", Due.INDEX, x.item(0, -1));
        x.mark(0, 1, 6);
        x.sheet(0, -1, 0);
        Due.due(36, "as it was then", -5, x.item(0, 1));
        x.lay(0, 0, 0);
        Due.due(36, "nothing again", Due.NOTHING, x.item(0, 1));
    }

    private static void rest() {
        SkittleMen x = new SkittleMen();
        Due.due(37, "slot 5", Due.BAD, x.rest(5, 0));
        Due.due(37, "slot -1", Due.BAD, x.rest(-1, 0));
        Due.due(37, "nothing", Due.NOTHING, x.rest(4, 0));
        x.man(0, 0, 0, 0);
        x.lay(4, 1, 0);
        Due.due(37, "a man", Due.KIND, x.rest(4, 0));
        x.sheet(0, 0, 1);
        x.lay(4, 2, 0);
        Due.due(37, "a sheet", Due.KIND, x.rest(4, 0));
        x.lay(4, 3, -17);
        Due.due(37, "by 0", Due.NO, x.rest(4, 0));
        Due.due(37, "by 5", -2, x.rest(4, 5));
        Due.due(37, "by -5", -2, x.rest(4, -5));
        x.lay(4, 3, 17);
        Due.due(37, "17 by -5", 2, x.rest(4, -5));
        x.lay(4, 3, MIN);
        Due.due(37, "MIN by -1", 0, x.rest(4, -1));
        Due.due(37, "MIN by MAX", -1, x.rest(4, MAX));
    }
}
