/** Promises 1 to 11. */
public final class MenTest {
    private static final int MIN = Integer.MIN_VALUE, MAX = Integer.MAX_VALUE;

    public static void main(String[] args) {
        newObject();
        man();
        toldAndKinds();
        bearsOfEachKind();
        as();
        turns();
        set();
        saysPlain();
        saysTakesBehind();
        saysTurns();
        saysKingAndOrder();
        saysRefused();
        sets();
        deal();
        seed();
        Due.end();
    }

    private static void newObject() {
        SkittleMen x = new SkittleMen();
        for (int what = 0; what < 6; what++) {
            Due.due(1, "new count(" + what + ")", 0, x.count(what));
        }
        Due.due(1, "new z", 1, x.count(6));
        for (int what = 0; what < 5; what++) {
            Due.due(1, "new alley(" + what + ")", 0, x.alley(what));
        }
        Due.due(1, "new why(0)", Due.NONE, x.why(0));
        Due.due(1, "new back()", Due.NO, x.back());
        for (int i = 0; i < 4; i++) {
            Due.due(1, "new pour", Due.NOTHING, x.pour(i));
        }
        for (int i = 0; i < 5; i++) {
            Due.due(1, "new rest", Due.NOTHING, x.rest(i, 1));
        }
        Due.due(1, "new told(0, 0)", Due.BAD, x.told(0, 0));
    }

    private static void man() {
        SkittleMen x = new SkittleMen();
        Due.due(2, "man kind -1", Due.BAD, x.man(-1, 0, 0, 0));
        Due.due(2, "man kind 6", Due.BAD, x.man(6, 0, 0, 0));
        Due.due(2, "man nerve -1", Due.BAD, x.man(0, -1, 0, 0));
        Due.due(2, "man nerve 100", Due.BAD, x.man(0, 100, 0, 0));
        Due.due(2, "man weight -1", Due.BAD, x.man(0, 0, -1, 0));
        Due.due(2, "man weight 100", Due.BAD, x.man(0, 0, 100, 0));
        Due.due(2, "man sore -1", Due.BAD, x.man(0, 0, 0, -1));
        Due.due(2, "man sore 8", Due.BAD, x.man(0, 0, 0, 8));
        Due.due(2, "man far out", Due.BAD, x.man(MIN, MAX, MIN, MAX));
        Due.due(2, "none came", 0, x.count(0));
        for (int i = 0; i < 9; i++) {
            Due.due(2, "man", i, x.man(i % 6, i == 0 ? 99 : 0, i == 1 ? 99 : 0, i == 2 ? 7 : 0));
        }
        Due.due(2, "the tenth", Due.FULL, x.man(0, 0, 0, 0));
        Due.due(2, "the tenth, bad", Due.BAD, x.man(0, 0, 0, 8));
        Due.due(2, "nine there", 9, x.count(0));
        Due.due(2, "all stand", 511, x.alley(3));
    }

    private static void toldAndKinds() {
        SkittleMen x = new SkittleMen();
        // kind, nerve, weight, sore, then what it pushes and is worth with felled 3
        int[][] men = {
            {0, 30, 60, 2, 60, 3}, {1, 31, 61, 3, 76, 64}, {2, 40, 50, 1, 40, 59}, {3, 20, 90, 0, 52, 465},
            {4, 36, 70, 4, 120, 31}, {5, 7, 20, 2, 0, 500}, {2, 99, 0, 0, -10, 0}, {4, 0, 3, 7, -14, 49}, {3, 1, 0, 6, 7, 15}};
        for (int i = 0; i < 9; i++) {
            x.man(men[i][0], men[i][1], men[i][2], men[i][3]);
            x.set(i, 4, 3);
        }
        x.set(4, 5, 1);
        for (int i = 0; i < 9; i++) {
            for (int what = 0; what < 4; what++) {
                Due.due(3, "told(" + i + ", " + what + ")", men[i][what], x.told(i, what));
            }
            Due.due(3, "told(" + i + ", 4)", 3, x.told(i, 4));
            Due.due(3, "told(" + i + ", 5)", i == 4 ? 1 : 0, x.told(i, 5));
            Due.due(3, "told(" + i + ", 6)", men[i][4], x.told(i, 6));
            Due.due(3, "told(" + i + ", 7)", men[i][5], x.told(i, 7));
        }
        Due.due(3, "told man 9", Due.BAD, x.told(9, 0));
        Due.due(3, "told man -1", Due.BAD, x.told(-1, 0));
        Due.due(3, "told what 8", Due.BAD, x.told(0, 8));
        Due.due(3, "told what -1", Due.BAD, x.told(0, -1));
        Due.due(3, "told far out", Due.BAD, x.told(MAX, MIN));
        SkittleMen y = new SkittleMen();
        y.man(0, 0, 0, 0);
        Due.due(3, "told of one that is not there", Due.BAD, y.told(1, 0));
    }

    private static void bearsOfEachKind() {
        SkittleMen x = new SkittleMen();
        x.man(0, 30, 60, 2);
        x.man(0, 15, 60, 2);
        x.man(1, 99, 99, 0);
        x.man(3, 20, 90, 1);
        x.man(2, 40, 50, 0);
        x.man(4, 25, 70, 4);
        x.man(4, 9, 70, 0);
        x.man(5, 0, 20, 2);
        int[][] due = {{0, 0, 30}, {0, 2, 10}, {1, 2, 0}, {2, 1, 108}, {2, 0, 88}, {3, 2, 64}, {3, 1, 44}, {4, 0, 99}, {4, 1, 40},
            {5, 0, 89}, {5, 4, 0}, {5, 7, 15}, {6, 1, 0}, {6, 0, 89}, {7, 2, 99}, {7, 0, 99}};
        for (int[] row : due) {
            Due.due(4, "bears(" + row[0] + ", " + row[1] + ")", row[2], x.bears(row[0], row[1]));
        }
        x.set(0, 5, 1);
        Due.due(4, "KING when another one is down", 59, x.bears(3, 2));
        x.set(3, 5, 1);
        Due.due(4, "KING when it is down itself", 59, x.bears(3, 2));
        Due.due(4, "one that is down bears, too", 30, x.bears(0, 0));
        Due.due(4, "bears man 8", Due.BAD, x.bears(8, 0));
        Due.due(4, "bears man -1", Due.BAD, x.bears(-1, 0));
        Due.due(4, "bears topic 8", Due.BAD, x.bears(0, 8));
        Due.due(4, "bears topic -1", Due.BAD, x.bears(0, -1));
    }

    private static void as() {
        SkittleMen x = new SkittleMen();
        String[] kindsOf = {"0", "01", "02", "013", "024", "05"};
        for (int i = 0; i < 6; i++) {
            x.man(i, 10 + i, 0, 0);
        }
        for (int man = 0; man < 6; man++) {
            for (int kind = 0; kind < 6; kind++) {
                boolean is = kindsOf[man].indexOf('0' + kind) >= 0;
                Due.due(5, "as(" + man + ", " + kind + ")", is ? 10 + man : Due.KIND, x.as(man, kind));
            }
        }
        Due.due(5, "as kind 6", Due.BAD, x.as(0, 6));
        Due.due(5, "as kind -1", Due.BAD, x.as(0, -1));
        Due.due(5, "as man 6", Due.BAD, x.as(6, 0));
        Due.due(5, "as man -1", Due.BAD, x.as(-1, 3));
    }

    private static void turns() {
        SkittleMen x = new SkittleMen();
        x.man(3, 20, 90, 0);
        Due.due(6, "turns(0, 5)", 3, x.turns(0, 5));
        Due.due(6, "kind then", 5, x.told(0, 0));
        Due.due(6, "worth then", 500, x.told(0, 7));
        Due.due(6, "turns(0, 5) again", 5, x.turns(0, 5));
        Due.due(6, "turns kind 6", Due.BAD, x.turns(0, 6));
        Due.due(6, "turns kind -1", Due.BAD, x.turns(0, -1));
        Due.due(6, "turns man 1", Due.BAD, x.turns(1, 0));
        Due.due(6, "turns man -1", Due.BAD, x.turns(-1, 0));
        Due.due(6, "kind stays", 5, x.told(0, 0));
        Due.due(6, "weight stays", 90, x.told(0, 2));
    }

    private static void set() {
        SkittleMen x = new SkittleMen();
        x.man(1, 11, 12, 3);
        int[] was = {0, 11, 12, 3, 0, 0};
        int[] most = {0, 99, 99, 7, 9999, 1};
        for (int what = 1; what <= 5; what++) {
            Due.due(7, "set above " + what, Due.BAD, x.set(0, what, most[what] + 1));
            Due.due(7, "set below " + what, Due.BAD, x.set(0, what, -1));
            Due.due(7, "stays " + what, was[what], x.told(0, what));
            Due.due(7, "set most " + what, was[what], x.set(0, what, most[what]));
            Due.due(7, "is " + what, most[what], x.told(0, what));
        }
        Due.due(7, "none stands", 0, x.count(2));
        Due.due(7, "fell stays", 0, x.alley(0));
        for (int what = 1; what <= 5; what++) {
            Due.due(7, "set 0 " + what, most[what], x.set(0, what, 0));
            Due.due(7, "is 0 " + what, 0, x.told(0, what));
        }
        Due.due(7, "set what 0", Due.BAD, x.set(0, 0, 0));
        Due.due(7, "set what 6", Due.BAD, x.set(0, 6, 0));
        Due.due(7, "set man 1", Due.BAD, x.set(1, 1, 0));
        Due.due(7, "set man -1", Due.BAD, x.set(-1, 1, 0));
        Due.due(7, "set far out", Due.BAD, x.set(0, MAX, MIN));
    }

    /** Nine men who bear 50 and push what is given. */
    private static SkittleMen nine(int weight) {
        SkittleMen x = new SkittleMen();
        for (int i = 0; i < 9; i++) {
            x.man(0, 50, weight, 7);
        }
        return x;
    }

    private static void saysPlain() {
        SkittleMen x = nine(50);
        Due.due(8, "force 0", 0, x.says(0, 0, 0, 0));
        Due.due(8, "as much as it bears", 0, x.says(0, 0, 50, 0));
        Due.due(8, "all stand", 511, x.alley(3));
        Due.due(8, "one more", 1, x.says(0, 0, 51, 0));
        Due.due(8, "0 is down", 510, x.alley(3));
        Due.due(8, "0 is felled", 1, x.told(0, 4));
        Due.due(8, "fell", 1, x.alley(0));
        Due.due(8, "the sore topic, with all behind", 6, x.says(1, 7, 31, 0));
        Due.due(8, "fell seven", 7, x.alley(0));
        Due.due(8, "goes as before", 0, x.alley(2));
        Due.due(8, "the go as before", 0, x.count(1));
        x.set(2, 4, 9999);
        Due.due(8, "falls at most felled", 1, x.says(2, 0, 99, 0));
        Due.due(8, "felled stays 9999", 9999, x.told(2, 4));
        Due.due(8, "fell eight", 8, x.alley(0));
    }

    private static void saysTakesBehind() {
        int[] withAll = {511, 1 << 1 | 1 << 3 | 1 << 4 | 1 << 6 | 1 << 7 | 1 << 8, 1 << 2 | 1 << 4 | 1 << 5 | 1 << 6 | 1 << 7 | 1 << 8,
            1 << 3 | 1 << 6 | 1 << 8, 1 << 4 | 1 << 6 | 1 << 7 | 1 << 8, 1 << 5 | 1 << 7 | 1 << 8, 1 << 6 | 1 << 8, 1 << 7 | 1 << 8, 1 << 8};
        for (int man = 0; man < 9; man++) {
            SkittleMen x = nine(51);
            Due.due(8, "straight to " + man, Integer.bitCount(withAll[man]), x.says(man, 0, 51, 0));
            Due.due(8, "who stands by " + man, 511 & ~withAll[man], x.alley(3));
        }
        SkittleMen x = nine(51);
        x.set(4, 5, 1);
        Due.due(8, "none goes on through one that is down", 8, x.says(0, 0, 99, 0));
        x = nine(51);
        x.turns(1, 5);
        x.turns(2, 5);
        Due.due(8, "none goes on through one that bears it", 1, x.says(0, 0, 99, 0));
    }

    private static void saysTurns() {
        int[] left = {1 | 1 << 1 | 1 << 3, 1 << 1 | 1 << 3, 1 << 2 | 1 << 4 | 1 << 6, 1 << 3, 1 << 4 | 1 << 6, 1 << 5 | 1 << 7 | 1 << 8,
            1 << 6, 1 << 7 | 1 << 8, 1 << 8};
        int[] right = {1 | 1 << 2 | 1 << 5, 1 << 1 | 1 << 4 | 1 << 7, 1 << 2 | 1 << 5, 1 << 3 | 1 << 6 | 1 << 8, 1 << 4 | 1 << 7, 1 << 5,
            1 << 6 | 1 << 8, 1 << 7, 1 << 8};
        for (int man = 0; man < 9; man++) {
            SkittleMen x = nine(51);
            x.says(man, 0, 99, -1);
            Due.due(8, "to the left by " + man, 511 & ~left[man], x.alley(3));
            x = nine(51);
            x.says(man, 0, 99, 1);
            Due.due(8, "to the right by " + man, 511 & ~right[man], x.alley(3));
        }
    }

    private static void saysKingAndOrder() {
        // 2, a KING, bears 10 and 5 for each other one that stands: it falls by 0's push of 16 only if the left side
        // has fallen ahead of it.
        SkittleMen x = new SkittleMen();
        x.man(0, 0, 16, 7);
        x.man(0, 0, 10, 7);
        x.man(3, 10, 0, 7);
        x.man(0, 0, 0, 7);
        Due.due(8, "king, nobody else left", 4, x.says(0, 0, 1, 0));
        x.sets();
        Due.due(8, "king, others stand", 1, x.says(0, 0, 1, 1));
        Due.due(8, "king stands", 14, x.alley(3));
    }

    private static void saysRefused() {
        SkittleMen x = nine(51);
        x.set(3, 5, 1);
        int state = Due.stateOf(x);
        Due.due(8, "says man -1", Due.BAD, x.says(-1, 0, 99, 0));
        Due.due(8, "says man 9", Due.BAD, x.says(9, 0, 99, 0));
        Due.due(8, "says topic -1", Due.BAD, x.says(0, -1, 99, 0));
        Due.due(8, "says topic 8", Due.BAD, x.says(0, 8, 99, 0));
        Due.due(8, "says force -1", Due.BAD, x.says(0, 0, -1, 0));
        Due.due(8, "says force 100", Due.BAD, x.says(0, 0, 100, 0));
        Due.due(8, "says turn -2", Due.BAD, x.says(0, 0, 99, -2));
        Due.due(8, "says turn 2", Due.BAD, x.says(0, 0, 99, 2));
        Due.due(8, "says to one down", Due.NO, x.says(3, 0, 99, 0));
        Due.due(8, "says to one down, bad", Due.BAD, x.says(3, 0, 99, 2));
        Due.due(8, "nothing changed", state, Due.stateOf(x));
    }

    private static void sets() {
        SkittleMen x = nine(51);
        Due.due(9, "sets, none down", 0, x.sets());
        Due.due(9, "set", 1, x.alley(1));
        x.says(1, 0, 99, -1);
        x.goes(1);
        int down = 9 - x.count(2);
        Due.due(9, "sets", down, x.sets());
        Due.due(9, "all stand", 511, x.alley(3));
        Due.due(9, "goes is 0", 0, x.alley(2));
        Due.due(9, "set two", 2, x.alley(1));
        Due.due(9, "the go stays", 1, x.count(1));
        Due.due(9, "felled stays", 1, x.told(3, 4));
        Due.due(9, "sets without men", 0, new SkittleMen().sets());
    }

    private static int z;

    private static int draw() {
        z = z * 1103515245 + 12345;
        return z >>> 8;
    }

    private static void deal() {
        SkittleMen x = new SkittleMen();
        Due.due(10, "deal(0)", Due.BAD, x.deal(0));
        Due.due(10, "deal(10)", Due.BAD, x.deal(10));
        Due.due(10, "deal(MIN)", Due.BAD, x.deal(MIN));
        Due.due(10, "z stays", 1, x.count(6));
        x.seed(-77);
        z = -77;
        Due.due(10, "deal(4)", 4, x.deal(4));
        x.man(0, 0, 0, 0);
        Due.due(10, "deal(9)", 4, x.deal(9));
        for (int i = 0; i < 9; i++) {
            if (i != 4) {
                Due.due(10, "kind", draw() % 6, x.told(i, 0));
                Due.due(10, "nerve", draw() % 100, x.told(i, 1));
                Due.due(10, "weight", draw() % 100, x.told(i, 2));
                Due.due(10, "sore", draw() % 8, x.told(i, 3));
                Due.due(10, "felled", 0, x.told(i, 4));
                Due.due(10, "down", 0, x.told(i, 5));
            }
        }
        Due.due(10, "z by what was drawn alone", z, x.count(6));
        Due.due(10, "deal when there is no room", 0, x.deal(1));
        Due.due(10, "no draws then", z, x.count(6));
        Due.due(10, "deal(0) when there is no room", Due.BAD, x.deal(0));
    }

    private static void seed() {
        SkittleMen x = new SkittleMen();
        Due.due(11, "seed(MIN)", 1, x.seed(MIN));
        Due.due(11, "seed(5)", MIN, x.seed(5));
        Due.due(11, "z", 5, x.count(6));
    }
}
