/** The boundary cases that promises 12 and 13, and A GO in part 2 of the Terms, name; each method quotes its sentence. */
public final class GoesEdgesTest {
    private static final int MAN = 0, JIM = 5;

    public static void main(String[] args) {
        withoutMen();
        setUpBehindThree();
        setUpWhenNoneStands();
        setUpOnce();
        saidRound();
        saidToTheFirstThatStands();
        fourDrawsEach();
        drawsOfZBelowZero();
        nerveAtItsBounds();
        nerveMovesBehindTheSaying();
        felledAtMost();
        nAtItsBounds();
        upTo9999();
        alleySets();
        alleyWhoHasMost();
        Due.end();
    }

    private static int z;

    private static int draw() {
        z = z * 1103515245 + 12345;
        return z >>> 8;
    }

    /** What a go says from this z on: TOPIC, FORCE, TURN, and to whom of so many, if all stand. */
    private static int[] saidFrom(int seed, int men) {
        z = seed;
        return new int[] {draw() % 8, draw() % 100, draw() % 3 - 1, draw() % men};
    }

    /** A z from which a go is said to this one of nine, with FORCE 50 at least. */
    private static int seedFor(int man) {
        for (int seed = 0; seed < 100000; seed++) {
            int[] said = saidFrom(seed, 9);
            if (said[1] >= 50 && said[3] == man) {
                return seed;
            }
        }
        throw new IllegalStateException("no such z");
    }

    /** "If .. none STANDS: all STAND, GOES is 0, SET is 1 more"; "and, if there are MEN, it is SAID"; four draws all the same. */
    private static void withoutMen() {
        Trial t = new Trial(12);
        for (int go = 1; go <= 5; go++) {
            t.due(0, "goes", 1);
            t.due(go, "alley", 1);
            t.due(1, "alley", 2);
            t.due(go, "count", 1);
        }
        z = 1;
        for (int i = 0; i < 20; i++) {
            draw();
        }
        t.due(z, "count", 6);
        t.due(0, "alley", 0);
        t.due(0, "alley", 4);
    }

    /** "If GOES is 3": behind the third go nothing is set up yet, with the fourth it is. */
    private static void setUpBehindThree() {
        Trial t = new Trial(12).man(JIM, 50, 0, 0).man(JIM, 50, 0, 0);
        t.call("set", 1, 5, 1);
        for (int go = 1; go <= 3; go++) {
            t.due(0, "goes", 1);
            t.due(0, "alley", 1);
            t.due(go, "alley", 2);
            t.due(1, "alley", 3);
        }
        t.due(0, "goes", 1);
        t.due(1, "alley", 1);
        t.due(1, "alley", 2);
        t.due(3, "alley", 3);
    }

    /** "or none STANDS", whatever GOES is. */
    private static void setUpWhenNoneStands() {
        for (int before = 0; before < 3; before++) {
            Trial t = new Trial(12).man(JIM, 50, 0, 0).man(JIM, 50, 0, 0);
            if (before > 0) {
                t.call("goes", before);
            }
            t.call("set", 0, 5, 1);
            t.call("set", 1, 5, 1);
            t.due(0, "alley", 1);
            t.due(before, "alley", 2);
            t.call("goes", 1);
            t.due(1, "alley", 1);
            t.due(1, "alley", 2);
            t.due(3, "alley", 3);
        }
    }

    /** Where both are so, SET is 1 more, not 2. */
    private static void setUpOnce() {
        Trial t = new Trial(12).man(JIM, 50, 0, 0);
        t.call("goes", 3);
        t.call("set", 0, 5, 1);
        t.call("goes", 1);
        t.due(1, "alley", 1);
        t.due(1, "alley", 2);
        t.due(1, "count", 2);
    }

    /** "the first one that STANDS from the one on that is the rest of the fourth by how many there are (round)". */
    private static void saidRound() {
        for (int man = 0; man < 9; man++) {
            for (int stands = 0; stands < 9; stands++) {
                Trial t = new Trial(12).nine(MAN, 0, 0, 7);
                for (int other = 0; other < 9; other++) {
                    t.call("set", other, 5, other == stands ? 0 : 1);
                }
                t.call("seed", seedFor(man));
                t.due(1, "goes", 1);
                t.due(1, "told", stands, 4);
                t.due(0, "alley", 3);
            }
        }
    }

    /** The same, where two stand: the nearer one on is told, over the end, too. */
    private static void saidToTheFirstThatStands() {
        int[][] rows = {{8, 0, 3, 0}, {8, 3, 8, 8}, {4, 3, 5, 5}, {4, 2, 3, 2}, {0, 1, 8, 1}, {0, 0, 8, 0}, {6, 2, 7, 7}};
        for (int[] row : rows) {
            Trial t = new Trial(12).nine(MAN, 0, 0, 7);
            for (int other = 0; other < 9; other++) {
                t.call("set", other, 5, other == row[1] || other == row[2] ? 0 : 1);
            }
            t.call("seed", seedFor(row[0]));
            t.due(1, "goes", 1);
            t.due(1, "told", row[3], 4);
        }
    }

    /** "Four draws", whether one falls or not, and however many men there are. */
    private static void fourDrawsEach() {
        for (int men = 0; men <= 9; men += 3) {
            Trial t = new Trial(12);
            for (int i = 0; i < men; i++) {
                t.man(MAN, 50, 50, i % 8);
            }
            t.call("seed", 5);
            t.call("goes", 100);
            z = 5;
            for (int i = 0; i < 400; i++) {
                draw();
            }
            t.due(z, "count", 6);
        }
    }

    /** "it gives z >>> 8": no TOPIC, FORCE, TURN or MAN is below its bound by a z below 0, and z wraps. */
    private static void drawsOfZBelowZero() {
        int[] seeds = {Trial.MIN, Trial.MAX, -1, 0, -123456789};
        for (int seed : seeds) {
            Trial t = new Trial(12).nine(MAN, 20, 30, 3);
            Trial u = new Trial(12).nine(MAN, 20, 30, 3);
            t.call("seed", seed);
            int[] said = saidFrom(seed, 9);
            int due = u.call("says", said[3], said[0], said[1], said[2]);
            t.due(due, "goes", 1);
            t.due(u.call("alley", 3), "alley", 3);
            t.due(z, "count", 6);
        }
    }

    /** "NERVE of those that STAND is 1 more (99 at most), of those DOWN 1 less (0 at least)". */
    private static void nerveAtItsBounds() {
        int[] nerves = {0, 1, 50, 97, 98, 99};
        for (int nerve : nerves) {
            Trial t = new Trial(12).man(JIM, nerve, 0, 0).man(JIM, nerve, 0, 0);
            t.call("set", 1, 5, 1);
            t.call("goes", 1);
            t.due(Math.min(99, nerve + 1), "told", 0, 1);
            t.due(Math.max(0, nerve - 1), "told", 1, 1);
            t.call("goes", 2);
            t.due(Math.min(99, nerve + 3), "told", 0, 1);
            t.due(Math.max(0, nerve - 3), "told", 1, 1);
        }
    }

    /** (3) stands behind (2): who falls by this go is 1 less by this go, and by what it bore ahead of it. */
    private static void nerveMovesBehindTheSaying() {
        int seed = seedFor(4);
        int[] said = saidFrom(seed, 9);
        int off = said[0] == 7 ? 6 : 7;
        Trial t = new Trial(12).nine(MAN, said[1] - 1, 0, off);
        t.call("seed", seed);
        t.due(1, "goes", 1);
        t.due(said[1] - 2, "told", 4, 1);
        t.due(said[1], "told", 3, 1);
        t = new Trial(12).nine(MAN, said[1], 0, off);
        t.call("seed", seed);
        t.due(0, "goes", 1);
        t.due(said[1] + 1, "told", 4, 1);
    }

    /** "FELLED (.. 9999 at most)" in a go; FELL is more, and goes answers by FELL. */
    private static void felledAtMost() {
        Trial t = new Trial(12).nine(MAN, 0, 0, 7);
        t.call("set", 2, 4, 9999);
        t.call("seed", seedFor(2));
        t.due(1, "goes", 1);
        t.due(9999, "told", 2, 4);
        t.due(1, "alley", 0);
    }

    /** "n (1 .. 100) GOES". */
    private static void nAtItsBounds() {
        Trial t = Trial.house(12);
        int fell = t.call("behind", 1, 0) - t.call("alley", 0);
        int before = t.call("count", 1);
        t.due(fell, "goes", 1);
        t.due(before + 1, "count", 1);
        fell = t.call("behind", 100, 0) - t.call("alley", 0);
        t.due(fell, "goes", 100);
        t.due(before + 101, "count", 1);
    }

    private static Trial at(int go) {
        Trial t = new Trial(12).nine(MAN, 50, 50, 3);
        for (int i = 0; i < go / 100; i++) {
            t.call("goes", 100);
        }
        if (go % 100 > 0) {
            t.call("goes", go % 100);
        }
        return t;
    }

    /** "(no more than up to 9999)", "THE GO is 0 at first, 9999 at most". */
    private static void upTo9999() {
        int[][] rows = {{9899, 100}, {9900, 99}, {9950, 49}, {9998, 1}, {9999, 0}};
        for (int[] row : rows) {
            Trial t = at(row[0]);
            Trial u = at(row[0]);
            t.due(row[0], "count", 1);
            int fell = t.call("behind", row[1], 0) - t.call("alley", 0);
            int setThen = t.call("behind", row[1], 1);
            t.due(fell, "goes", 100);
            t.due(9999, "count", 1);
            t.due(setThen, "alley", 1);
            if (row[1] > 0) {
                u.due(fell, "goes", row[1]);
            }
            t.due(u.call("count", 6), "count", 6);
            t.due(u.call("alley", 4), "alley", 4);
            t.onlyAsks(0, "goes", 1);
            t.onlyAsks(0, "goes", 100);
            t.refused(Due.BAD, "goes", 101);
            t.refused(Due.BAD, "goes", 0);
        }
    }

    /** "Sets of MEN are told by bits": none, each alone, all. */
    private static void alleySets() {
        Trial t = new Trial(13);
        t.due(0, "alley", 3);
        t.nine(MAN, 99, 0, 0);
        t.due(511, "alley", 3);
        t.due(891, "alley", 4);
        for (int man = 0; man < 9; man++) {
            t.call("set", man, 5, 1);
            t.due(511 & ~(1 << man), "alley", 3);
            t.call("set", man, 5, 0);
        }
        for (int man = 0; man < 9; man++) {
            t.call("set", man, 5, 1);
        }
        t.due(0, "alley", 3);
        t.due(891, "alley", 4);
        t.due(0, "count", 2);
    }

    /** "who has most FELLED (of several the least)", "NONE: (what 5) there are no MEN". */
    private static void alleyWhoHasMost() {
        Trial t = new Trial(13);
        t.due(Due.NONE, "alley", 5);
        t.nine(MAN, 0, 0, 0);
        t.due(0, "alley", 5);
        t.call("set", 8, 4, 1);
        t.due(8, "alley", 5);
        t.call("set", 3, 4, 1);
        t.due(3, "alley", 5);
        t.call("set", 1, 4, 2);
        t.due(1, "alley", 5);
        t.call("set", 8, 4, 9999);
        t.due(8, "alley", 5);
        t.call("set", 0, 4, 9999);
        t.due(0, "alley", 5);
        // One that is down counts, too.
        t.call("set", 0, 5, 1);
        t.due(0, "alley", 5);
    }
}
