/** Promises 14 to 23. */
public final class ThoughtTest {
    public static void main(String[] args) {
        best();
        bestOfSeveral();
        pair();
        clear();
        clearByTextsOfThoseThatStand();
        onlyToTheRight();
        onlyTheFirstTopic();
        force();
        behind();
        falls();
        becomes();
        like();
        fee();
        fine();
        Due.end();
    }

    private static void dueBest(SkittleMen x, int f, int fallen, int man, int topic, int turn) {
        int[] due = {fallen, man, topic, turn + 1};
        for (int what = 0; what < 4; what++) {
            Due.due(14, "best(" + f + ", " + what + ")", due[what], x.best(f, what));
        }
    }

    private static SkittleMen nine(int nerve, int weight) {
        SkittleMen x = new SkittleMen();
        for (int i = 0; i < 9; i++) {
            x.man(0, nerve, weight, 7);
        }
        return x;
    }

    private static void best() {
        SkittleMen x = nine(50, 51);
        dueBest(x, 51, 9, 0, 0, 0);
        dueBest(x, 31, 9, 0, 7, 0);
        dueBest(x, 30, 0, 0, 0, -1);
        dueBest(x, 0, 0, 0, 0, -1);
        x.set(0, 5, 1);
        dueBest(x, 51, 6, 1, 0, 0);
        x.set(1, 5, 1);
        dueBest(x, 99, 6, 2, 0, 0);
        x.turns(2, 5);
        dueBest(x, 99, 4, 4, 0, 0);
        for (int i = 0; i < 9; i++) {
            x.set(i, 5, 1);
        }
        Due.due(14, "best, none stands", Due.NONE, x.best(50, 0));
        Due.due(14, "best, none stands, bad f", Due.BAD, x.best(100, 0));
        Due.due(14, "best f -1", Due.BAD, x.best(-1, 0));
        Due.due(14, "best what 4", Due.BAD, x.best(0, 4));
        Due.due(14, "best what -1", Due.BAD, x.best(0, -1));
        Due.due(14, "best without men", Due.NONE, new SkittleMen().best(99, 3));
    }

    private static void bestOfSeveral() {
        SkittleMen x = new SkittleMen();
        x.man(5, 0, 0, 0);
        x.man(0, 30, 0, 3);
        x.man(0, 30, 0, 2);
        dueBest(x, 15, 1, 1, 3, -1);
        x.set(1, 3, 2);
        dueBest(x, 15, 1, 1, 2, -1);
        dueBest(x, 31, 1, 1, 0, -1);
        x.man(0, 0, 99, 0);
        x.set(1, 2, 50);
        dueBest(x, 31, 2, 1, 0, -1);
        x.man(0, 0, 0, 0);
        dueBest(x, 31, 3, 1, 0, 0);
        x.set(3, 5, 1);
        dueBest(x, 31, 2, 1, 0, 0);
    }

    private static void pair() {
        Due.due(15, "pair without men", 0, new SkittleMen().pair(50));
        SkittleMen x = nine(50, 51);
        Due.due(15, "pair, all by the first", 9, x.pair(51));
        Due.due(15, "pair, none", 0, x.pair(30));
        x = nine(50, 0);
        Due.due(15, "pair, one by each", 2, x.pair(51));
        x = nine(50, 51);
        x.turns(0, 5);
        Due.due(15, "pair, JIM in front", 8, x.pair(51));
        x.turns(4, 5);
        Due.due(15, "pair, JIM amid", 7, x.pair(99));
        SkittleMen one = new SkittleMen();
        one.man(0, 0, 0, 0);
        Due.due(15, "pair, one man", 1, one.pair(1));
        Due.due(15, "pair(-1)", Due.BAD, x.pair(-1));
        Due.due(15, "pair(100)", Due.BAD, x.pair(100));
        // It is better to say it to the King last: each other one that stands bears him up.
        SkittleMen king = new SkittleMen();
        king.man(3, 30, 0, 7);
        king.man(0, 0, 0, 7);
        Due.due(14, "best, king", 1, king.best(15, 0));
        Due.due(15, "pair, king last", 2, king.pair(15));
    }

    private static void clear() {
        Due.due(16, "clear without men", 0, new SkittleMen().clear(0));
        Due.due(16, "clear, one", 1, nine(50, 51).clear(51));
        Due.due(16, "clear, each", 9, nine(50, 30).clear(51));
        Due.due(16, "clear, none falls", Due.NONE, nine(50, 51).clear(30));
        Due.due(16, "clear by the sore", 1, nine(50, 51).clear(31));
        SkittleMen x = nine(50, 51);
        x.turns(0, 5);
        Due.due(16, "clear, JIM", Due.NONE, x.clear(99));
        x.set(0, 5, 1);
        Due.due(16, "clear, JIM is down", 2, x.clear(51));
        for (int i = 1; i < 9; i++) {
            x.set(i, 5, 1);
        }
        Due.due(16, "clear, none stands", 0, x.clear(51));
        Due.due(16, "clear(-1)", Due.BAD, x.clear(-1));
        Due.due(16, "clear(100)", Due.BAD, x.clear(100));
        // With eight others the KING bears 50 of his sore topic, alone 10.
        SkittleMen king = new SkittleMen();
        for (int i = 0; i < 9; i++) {
            king.man(i == 0 ? 3 : 0, i == 0 ? 30 : 10, 0, i == 0 ? 7 : 6);
        }
        Due.due(16, "clear, king last", 9, king.clear(11));
        Due.due(16, "clear, king bears it alone", Due.NONE, king.clear(10));
        king.set(0, 2, 99);
        Due.due(16, "clear, king takes two", 7, king.clear(60));
        Due.due(16, "clear, king takes two, but one is first", 7, king.clear(59));
    }

    private static void clearByTextsOfThoseThatStand() {
        SkittleMen x = new SkittleMen();
        for (int i = 0; i < 4; i++) {
            x.man(0, 0, 0, 7);
        }
        Due.text(x, "bears (s < 3) * 60");
        Due.due(16, "clear, the last two bear more", Due.NONE, x.clear(40));
        Due.due(15, "pair, the first two fall", 2, x.pair(40));
        Due.due(16, "clear by enough", 4, x.clear(61));
        Due.due(16, "clear by enough of the sore", 4, x.clear(41));
        x.set(0, 5, 1);
        x.set(1, 5, 1);
        Due.due(14, "best, when two stand", 0, x.best(40, 0));
    }

    /** 2 falls by the push of 0 alone, and only while 1 stands: the right turn is better than the straight one. */
    private static void onlyToTheRight() {
        SkittleMen x = new SkittleMen();
        int[][] men = {{0, 60}, {0, 0}, {40, 60}, {0, 0}, {0, 0}, {0, 0}};
        for (int[] one : men) {
            x.man(0, one[0], one[1], 7);
        }
        x.set(3, 5, 1);
        x.set(4, 5, 1);
        Due.text(x, "bears n+(s<3)*(w>50)*99");
        dueBest(x, 10, 3, 0, 0, 1);
        Due.due(15, "pair, to the right", 4, x.pair(10));
        Due.due(16, "clear, to the right", 2, x.clear(10));
    }

    private static void onlyTheFirstTopic() {
        SkittleMen x = new SkittleMen();
        x.man(0, 30, 0, 0);
        dueBest(x, 15, 1, 0, 0, -1);
        Due.due(15, "pair by topic 0", 1, x.pair(15));
        Due.due(16, "clear by topic 0", 1, x.clear(15));
        Due.due(15, "pair(0)", 0, x.pair(0));
        Due.due(16, "clear(0)", Due.NONE, x.clear(0));
        x.set(0, 3, 7);
        Due.due(17, "force of topic 7", 11, x.force(0, 7));
        Due.due(16, "clear by topic 7", 1, x.clear(15));
    }

    private static void force() {
        SkittleMen x = new SkittleMen();
        x.man(0, 98, 0, 1);
        x.man(0, 99, 0, 1);
        x.man(5, 0, 0, 1);
        x.man(0, 5, 0, 1);
        x.man(1, 98, 10, 1);
        Due.due(17, "force 99", 99, x.force(0, 0));
        Due.due(17, "force of the sore", 79, x.force(0, 1));
        Due.due(17, "force, none", Due.NONE, x.force(1, 0));
        Due.due(17, "force of the sore", 80, x.force(1, 1));
        Due.due(17, "force, JIM", Due.NONE, x.force(2, 1));
        Due.due(17, "force, least", 1, x.force(3, 1));
        Due.due(17, "force, stout", Due.NONE, x.force(4, 0));
        Due.due(17, "force, stout's sore", 80, x.force(4, 1));
        x.set(2, 5, 1);
        Due.due(17, "force, down", Due.NO, x.force(2, 1));
        Due.due(17, "force, down, bad topic", Due.BAD, x.force(2, 8));
        Due.due(17, "force topic -1", Due.BAD, x.force(0, -1));
        Due.due(17, "force man 5", Due.BAD, x.force(5, 0));
        Due.due(17, "force man -1", Due.BAD, x.force(-1, 0));
    }

    private static void behind() {
        for (int seed = 3; seed < 9; seed++) {
            SkittleMen x = new SkittleMen();
            SkittleMen y = new SkittleMen();
            x.seed(seed);
            y.seed(seed);
            x.deal(seed);
            y.deal(seed);
            x.goes(2);
            y.goes(2);
            int[] ns = {0, 1, 2, 3, 17, 100};
            for (int n : ns) {
                y.keep();
                if (n > 0) {
                    y.goes(n);
                }
                Due.due(18, "behind(" + n + ", 0)", y.alley(0), x.behind(n, 0));
                Due.due(18, "behind(" + n + ", 1)", y.alley(1), x.behind(n, 1));
                Due.due(18, "behind(" + n + ", 2)", y.count(2), x.behind(n, 2));
                for (int man = 0; man < seed; man++) {
                    Due.due(18, "behind(" + n + ", 3 and " + man + ")", y.told(man, 4), x.behind(n, 3 + man));
                }
                y.back();
            }
            Due.due(18, "behind of no man", Due.BAD, x.behind(1, 3 + seed));
            Due.due(18, "behind what -1", Due.BAD, x.behind(1, -1));
            Due.due(18, "behind -1", Due.BAD, x.behind(-1, 0));
            Due.due(18, "behind 101", Due.BAD, x.behind(101, 0));
        }
        Due.due(18, "behind(3, 3) without men", Due.BAD, new SkittleMen().behind(3, 3));
        Due.due(18, "behind(0, 2) without men", 0, new SkittleMen().behind(0, 2));
    }

    private static void falls() {
        for (int man = 0; man < 9; man++) {
            SkittleMen x = new SkittleMen();
            x.seed(12);
            x.deal(9);
            int due = Due.NONE;
            x.keep();
            for (int n = 1; n <= 200 && due == Due.NONE; n++) {
                x.goes(1);
                if (x.told(man, 4) > 0) {
                    due = n;
                }
            }
            x.back();
            Due.due(19, "falls(" + man + ")", due, x.falls(man));
        }
        SkittleMen y = new SkittleMen();
        y.man(5, 0, 0, 0);
        y.man(0, 0, 0, 0);
        Due.due(19, "falls, JIM", Due.NONE, y.falls(0));
        y.set(1, 4, 9999);
        Due.due(19, "falls, felled at most", Due.NONE, y.falls(1));
        Due.due(19, "falls(2)", Due.BAD, y.falls(2));
        Due.due(19, "falls(-1)", Due.BAD, y.falls(-1));
        fallsAtTheBound();
    }

    /** One that falls by the 200th go first, and one that would by the 201st. */
    private static void fallsAtTheBound() {
        boolean at200 = false;
        boolean at201 = false;
        for (int seed = 0; seed < 200000 && !(at200 && at201); seed++) {
            int first = firstForceOf99(seed);
            if (first == 200 && !at200 || first == 201 && !at201) {
                SkittleMen x = new SkittleMen();
                x.man(0, 0, 0, 0);
                Due.text(x, "bears 98");
                x.set(0, 3, 0);
                x.seed(seed);
                Due.due(19, "falls at the bound, " + first, first == 200 ? 200 : Due.NONE, x.falls(0));
                at200 |= first == 200;
                at201 |= first == 201;
            }
        }
        Due.due(19, "both bounds were met", 1, at200 && at201 ? 1 : 0);
    }

    /** When one who bears 98, of his sore topic 0 78, falls first. */
    private static int firstForceOf99(int seed) {
        int z = seed;
        for (int n = 1; n <= 201; n++) {
            int[] drawn = new int[4];
            for (int i = 0; i < 4; i++) {
                z = z * 1103515245 + 12345;
                drawn[i] = z >>> 8;
            }
            if (drawn[1] % 100 > (drawn[0] % 8 == 0 ? 78 : 98)) {
                return n;
            }
        }
        return 202;
    }

    private static void becomes() {
        for (int seed = 1; seed < 12; seed++) {
            SkittleMen x = new SkittleMen();
            x.seed(seed);
            x.deal(9);
            int n = seed == 11 ? 60 : seed;
            for (int man = 0; man < 9; man += 4) {
                int bestKind = 0;
                int least = 10000;
                for (int kind = 0; kind < 6; kind++) {
                    x.keep();
                    x.turns(man, kind);
                    x.goes(n);
                    int felled = x.told(man, 4);
                    x.back();
                    if (felled < least) {
                        least = felled;
                        bestKind = kind;
                    }
                }
                Due.due(20, "becomes(" + man + ", " + n + ", 0)", bestKind, x.becomes(man, n, 0));
                Due.due(20, "becomes(" + man + ", " + n + ", 1)", least, x.becomes(man, n, 1));
            }
        }
        SkittleMen y = new SkittleMen();
        y.man(0, 0, 0, 0);
        y.set(0, 4, 9999);
        Due.due(20, "becomes, felled at most", 0, y.becomes(0, 60, 0));
        Due.due(20, "becomes, felled at most", 9999, y.becomes(0, 60, 1));
        y.set(0, 4, 0);
        Due.due(20, "becomes, one alone is JIM", 5, y.becomes(0, 60, 0));
        Due.due(20, "becomes n 0", Due.BAD, y.becomes(0, 0, 0));
        Due.due(20, "becomes n 61", Due.BAD, y.becomes(0, 61, 0));
        Due.due(20, "becomes what 2", Due.BAD, y.becomes(0, 1, 2));
        Due.due(20, "becomes what -1", Due.BAD, y.becomes(0, 1, -1));
        Due.due(20, "becomes man 1", Due.BAD, y.becomes(1, 1, 0));
        Due.due(20, "becomes man -1", Due.BAD, y.becomes(-1, 1, 0));
    }

    private static void like() {
        SkittleMen x = new SkittleMen();
        Due.due(21, "like, missing", Due.NOTHING, x.like(3, 1));
        x.sheet(3, 1, 3);
        Due.due(21, "like without men", Due.NONE, x.like(3, 0));
        Due.due(21, "like sheet 4", Due.BAD, x.like(4, 0));
        Due.due(21, "like sheet -1", Due.BAD, x.like(-1, 0));
        Due.due(21, "like what 2", Due.BAD, x.like(3, 2));
        Due.due(21, "like what -1", Due.BAD, x.like(0, -1));
        x.man(5, 10, 0, 0);
        x.man(5, 40, 0, 0);
        x.man(5, 40, 0, 0);
        x.mark(3, 0, 38);
        x.mark(3, 1, Due.NONE);
        x.mark(3, 2, -5);
        // JIMs never fall, so their nerve is one more by each go.
        Due.due(21, "like, signs left out", 0, x.like(3, 0));
        Due.due(21, "like, together", 28 + 17, x.like(3, 1));
        x.mark(3, 2, 43);
        Due.due(21, "like, of several the least", 1, x.like(3, 0));
        Due.due(21, "like, of several the least", 2 + 1, x.like(3, 1));
        x.sheet(3, 0, 0);
        Due.due(21, "like, no places", 0, x.like(3, 0));
        Due.due(21, "like, no places", 0, x.like(3, 1));
        x.sheet(3, 1, 24);
        for (int k = 0; k < 24; k++) {
            x.mark(3, k, -99999);
        }
        Due.due(21, "like, far off", 24 * 99999 + 24 * 10 + 23 * 12, x.like(3, 1));
    }

    private static void fee() {
        SkittleMen x = nine(50, 51);
        Due.due(22, "fee, new", 0, x.fee());
        x.says(0, 0, 99, 0);
        Due.due(22, "fee without a text", 9, x.fee());
        x.sets();
        x.sets();
        Due.text(x, "fee f * 10 - s * 100");
        Due.due(22, "fee", -110, x.fee());
        Due.text(x, "fine 7");
        Due.due(22, "fee is not by fine", -110, x.fee());
        Due.text(x, "fee 5");
        Due.due(22, "fee by the last text", 5, x.fee());
    }

    private static void fine() {
        SkittleMen x = new SkittleMen();
        x.man(0, 12, 34, 0);
        Due.due(23, "fine without a text", 12, x.fine(0));
        Due.text(x, "fine w - n * 100");
        Due.due(23, "fine", 34 - 1200, x.fine(0));
        Due.due(23, "fine(1)", Due.BAD, x.fine(1));
        Due.due(23, "fine(-1)", Due.BAD, x.fine(-1));
    }
}
