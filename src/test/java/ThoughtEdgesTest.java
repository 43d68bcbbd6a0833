/** The boundary cases that promises 14 to 23, and part 3 of the Terms, name; each method quotes its sentence. */
public final class ThoughtEdgesTest {
    private static final int MAN = 0, STOUT = 1, CHAPEL = 2, KING = 3, JIM = 5;

    public static void main(String[] args) {
        bestWhenNoneFalls();
        bestByForceAlone();
        bestOfSeveralTheLesserMan();
        bestOfSeveralTheLesserTopic();
        bestOfSeveralTheLesserTurn();
        bestOfTheLastOfAll();
        bestToThoseThatStand();
        pairOfFewerThanTwo();
        pairIsNotTheBestTwice();
        pairOfTwoAlone();
        clearOfNone();
        clearOfOneToNine();
        clearByNone();
        clearIsTheFewest();
        onlyToTheLeft();
        onlyToTheRight();
        onlyOfOneTopic();
        forceAtTheBounds();
        forceByATextAtTheBounds();
        behindNoGoes();
        behindAHundred();
        behindEachMan();
        behindTheLastGo();
        fallsByTheFirst();
        fallsByTheTwoHundredth();
        fallsOfFelledAtMost();
        fallsBehindTheLastGo();
        becomesOfSeveralTheLeast();
        becomesAtTheBoundsOfN();
        becomesOfFelledAtMost();
        becomesBehindTheLastGo();
        likeWithoutPlaces();
        likeWithoutNumbers();
        likeOfSeveralTheLeast();
        likeSignsLeftOut();
        likeAtTheBounds();
        likeBehindTheLastGo();
        feeWraps();
        fineWraps();
        onlyThought();
        Due.end();
    }

    private static void dueBest(Trial t, int f, int fallen, int man, int topic, int turn) {
        int[] due = {fallen, man, topic, turn + 1};
        for (int what = 0; what < 4; what++) {
            t.onlyAsks(due[what], "best", f, what);
        }
    }

    private static Trial allDownBut(Trial t, int stands) {
        for (int man = 0; man < 9; man++) {
            if (man != stands) {
                t.call("set", man, 5, 1);
            }
        }
        return t;
    }

    private static Trial atLastGo(Trial t) {
        for (int i = 0; i < 100; i++) {
            t.call("goes", 100);
        }
        t.due(9999, "count", 1);
        return t;
    }

    /** "of all SAYINGS with that FORCE, to those that STAND, the one by which most fall", though that be none. */
    private static void bestWhenNoneFalls() {
        Trial t = new Trial(14).nine(MAN, 0, 99, 3);
        dueBest(t, 0, 0, 0, 0, -1);
        t.call("set", 0, 5, 1);
        t.call("set", 1, 5, 1);
        dueBest(t, 0, 0, 2, 0, -1);
        dueBest(new Trial(14).man(JIM, 0, 0, 0), 99, 0, 0, 0, -1);
    }

    /** By FORCE f and not by one more: "less than FORCE". */
    private static void bestByForceAlone() {
        Trial t = new Trial(14).man(MAN, 98, 0, 7);
        dueBest(t, 78, 0, 0, 0, -1);
        dueBest(t, 79, 1, 0, 7, -1);
        dueBest(t, 98, 1, 0, 7, -1);
        dueBest(t, 99, 1, 0, 0, -1);
    }

    /** "of several that with the lesser MAN". */
    private static void bestOfSeveralTheLesserMan() {
        Trial t = new Trial(14).nine(MAN, 50, 0, 3);
        dueBest(t, 51, 1, 0, 0, -1);
        t.call("turns", 0, JIM);
        dueBest(t, 51, 1, 1, 0, -1);
        // The lesser MAN, though the other one has the lesser TOPIC.
        t = new Trial(14).man(MAN, 50, 0, 5).man(MAN, 50, 0, 2);
        dueBest(t, 31, 1, 0, 5, -1);
    }

    /** "then the lesser TOPIC". */
    private static void bestOfSeveralTheLesserTopic() {
        Trial t = new Trial(14).man(CHAPEL, 50, 0, 5);
        dueBest(t, 51, 1, 0, 1, -1);
        dueBest(t, 31, 1, 0, 5, -1);
        // The lesser TOPIC, though it takes the greater TURN: 2 is sore by 1, 1 by 4, each is one more that falls.
        t = new Trial(14).man(MAN, 0, 40, 7).man(MAN, 50, 0, 4).man(MAN, 50, 0, 1);
        dueBest(t, 1, 2, 0, 1, 0);
    }

    /** "then the lesser TURN". */
    private static void bestOfSeveralTheLesserTurn() {
        Trial t = new Trial(14).man(MAN, 0, 99, 7).man(JIM, 0, 0, 0).man(JIM, 0, 0, 0);
        dueBest(t, 1, 1, 0, 0, -1);
        t = new Trial(14).man(MAN, 0, 99, 7).man(MAN, 0, 0, 0).man(JIM, 0, 0, 0);
        dueBest(t, 1, 2, 0, 0, -1);
        t = new Trial(14).man(MAN, 0, 99, 7).man(JIM, 0, 0, 0).man(MAN, 0, 0, 0);
        dueBest(t, 1, 2, 0, 0, 0);
        t = new Trial(14).man(MAN, 0, 99, 7).man(MAN, 0, 0, 0).man(MAN, 0, 0, 0);
        dueBest(t, 1, 3, 0, 0, 0);
        // Only the turn to the right: 1 down ahead of it makes 2 bear all.
        t = new Trial(14).man(MAN, 0, 50, 7).man(MAN, 0, 0, 7).man(MAN, 9, 50, 7).man(JIM, 0, 0, 0).man(JIM, 0, 0, 0).man(MAN, 0, 0, 7);
        t.text("bears n+(s<5)*(n=9)*90");
        dueBest(t, 1, 3, 0, 0, 1);
    }

    /** The last of all SAYINGS: MAN 8, TOPIC 7. */
    private static void bestOfTheLastOfAll() {
        Trial t = new Trial(14).nine(JIM, 0, 0, 0);
        t.call("turns", 8, MAN);
        t.call("set", 8, 1, 30);
        t.call("set", 8, 3, 7);
        dueBest(t, 11, 1, 8, 7, -1);
        dueBest(t, 10, 0, 0, 0, -1);
    }

    /** "to those that STAND". */
    private static void bestToThoseThatStand() {
        for (int man = 0; man < 9; man++) {
            Trial t = allDownBut(new Trial(14).nine(MAN, 0, 99, 3), man);
            dueBest(t, 1, 1, man, 0, -1);
        }
    }

    /** "the most that two such SAYINGS .. fell, together": where none stands, or one. */
    private static void pairOfFewerThanTwo() {
        new Trial(15).onlyAsks(0, "pair", 99);
        Trial t = new Trial(15).nine(MAN, 0, 0, 3);
        t.onlyAsks(0, "pair", 0);
        allDownBut(t, 8);
        t.onlyAsks(1, "pair", 1);
        t.call("set", 8, 5, 1);
        t.onlyAsks(0, "pair", 99);
        t.onlyAsks(0, "pair", 0);
    }

    /** The best saying first need not be the best two: a king falls when fewer stand. */
    private static void pairIsNotTheBestTwice() {
        // With 1 the king bears 15 of his sore topic, alone 10.
        Trial t = new Trial(15).man(KING, 30, 0, 7).man(MAN, 0, 0, 6);
        t.onlyAsks(1, "pair", 10);
        t.onlyAsks(2, "pair", 11);
        t.onlyAsks(2, "pair", 15);
        t.onlyAsks(2, "pair", 99);
    }

    /** Two, not three: nine who each fall alone. */
    private static void pairOfTwoAlone() {
        Trial t = new Trial(15).nine(MAN, 50, 0, 3);
        t.onlyAsks(0, "pair", 30);
        t.onlyAsks(2, "pair", 31);
        t.onlyAsks(2, "pair", 99);
        t = new Trial(15).nine(MAN, 50, 51, 3);
        t.onlyAsks(9, "pair", 51);
        t.call("turns", 0, JIM);
        t.onlyAsks(8, "pair", 51);
    }

    /** "the fewest such SAYINGS .. by which none STANDS": 0, where none does. */
    private static void clearOfNone() {
        new Trial(16).onlyAsks(0, "clear", 0);
        new Trial(16).onlyAsks(0, "clear", 99);
        Trial t = allDownBut(new Trial(16).nine(JIM, 0, 0, 3), -1);
        t.onlyAsks(0, "clear", 0);
    }

    /** One for each, up to nine; or one for all. */
    private static void clearOfOneToNine() {
        for (int men = 1; men <= 9; men++) {
            Trial t = new Trial(16);
            for (int i = 0; i < men; i++) {
                t.man(MAN, 50, 0, 7);
            }
            t.onlyAsks(men, "clear", 51);
            t.onlyAsks(men, "clear", 31);
            t.onlyAsks(Due.NONE, "clear", 30);
        }
        new Trial(16).nine(MAN, 50, 51, 7).onlyAsks(1, "clear", 51);
    }

    /** "NONE: by none." */
    private static void clearByNone() {
        Trial t = new Trial(16).nine(MAN, 50, 51, 7);
        t.call("turns", 8, JIM);
        t.onlyAsks(Due.NONE, "clear", 99);
        t.onlyAsks(Due.NONE, "clear", 0);
        // What an earlier search of the same object came by is nothing to a later one.
        t = new Trial(16).nine(MAN, 50, 0, 7);
        t.onlyAsks(9, "clear", 51);
        t.call("turns", 0, JIM);
        t.onlyAsks(Due.NONE, "clear", 51);
        t.onlyAsks(2, "pair", 51);
        t.onlyAsks(Due.NONE, "clear", 30);
        t.onlyAsks(0, "pair", 30);
        t.call("set", 0, 5, 1);
        t.onlyAsks(8, "clear", 51);
        // By what the sore topic asks for, and not by one less.
        t = new Trial(16).man(MAN, 98, 0, 7);
        t.onlyAsks(1, "clear", 79);
        t.onlyAsks(Due.NONE, "clear", 78);
        new Trial(16).man(STOUT, 99, 99, 7).onlyAsks(1, "clear", 89);
        new Trial(16).man(STOUT, 99, 99, 7).onlyAsks(Due.NONE, "clear", 88);
    }

    /** The fewest, though another row of sayings is begun by the best one. */
    private static void clearIsTheFewest() {
        // A king who bears less the fewer stand: the eight others must go first, by nine sayings in all.
        Trial t = new Trial(16).nine(MAN, 10, 0, 6);
        t.call("turns", 0, KING);
        t.call("set", 0, 3, 7);
        t.call("set", 0, 1, 30);
        t.onlyAsks(9, "clear", 11);
        t.onlyAsks(Due.NONE, "clear", 10);
        // 0 falls by himself, 1 and 2 with those behind them.
        t = new Trial(16).nine(MAN, 50, 60, 6);
        t.call("set", 0, 2, 0);
        t.onlyAsks(3, "clear", 51);
        t.call("set", 0, 2, 60);
        t.onlyAsks(1, "clear", 51);
    }

    /** Two or more in a row for which the first must have the TURN -1: 0 falls while six stand alone, 4 while five do. */
    private static void onlyToTheLeft() {
        Trial t = new Trial(15).nine(MAN, 2, 0, 7);
        int[][] men = {{0, 0, 50}, {2, 40, 0}, {4, 1, 50}, {6, 2, 50}, {7, 2, 50}, {8, 2, 50}};
        for (int[] man : men) {
            t.call("set", man[0], 1, man[1]);
            t.call("set", man[0], 2, man[2]);
        }
        for (int man = 1; man < 6; man += 2) {
            t.call("set", man, 5, 1);
        }
        t.text("bears (n=40)*40+(n=0)*(s<6)*99+(n=1)*(s<5)*99");
        t.onlyAsks(5, "pair", 1);
        t.onlyAsks(3, "clear", 21);
        t.onlyAsks(Due.NONE, "clear", 20);
    }

    /** The same with the TURN 1: 2 falls by the push of 0 alone, and only while 1 stands. */
    private static void onlyToTheRight() {
        Trial t = new Trial(15);
        int[][] men = {{0, 60}, {0, 0}, {40, 60}, {0, 0}, {0, 0}, {0, 0}};
        for (int[] one : men) {
            t.man(MAN, one[0], one[1], 7);
        }
        t.call("set", 3, 5, 1);
        t.call("set", 4, 5, 1);
        t.text("bears n+(s<3)*(w>50)*99");
        t.onlyAsks(4, "pair", 10);
        t.onlyAsks(2, "clear", 10);
    }

    /** "a TOPIC 0 .. 7": by the first alone, by the last alone. */
    private static void onlyOfOneTopic() {
        for (int topic = 0; topic < 8; topic++) {
            Trial t = new Trial(16).man(MAN, 30, 0, topic);
            dueBest(t, 11, 1, 0, topic, -1);
            t.onlyAsks(1, "pair", 11);
            t.onlyAsks(1, "clear", 11);
            t.onlyAsks(0, "pair", 10);
            t.onlyAsks(Due.NONE, "clear", 10);
        }
    }

    /** "the least FORCE with which it falls": 1 at least, 99 at most, else NONE. */
    private static void forceAtTheBounds() {
        int[][] rows = {{MAN, 0, 0, 1}, {MAN, 97, 0, 98}, {MAN, 98, 0, 99}, {MAN, 99, 0, Due.NONE}, {STOUT, 98, 9, 99}, {STOUT, 98, 10, Due.NONE},
            {STOUT, 89, 99, 99}, {STOUT, 90, 99, Due.NONE}, {JIM, 0, 0, Due.NONE}};
        for (int[] row : rows) {
            Trial t = new Trial(17).man(row[0], row[1], row[2], 7);
            t.onlyAsks(row[3], "force", 0, 0);
            if (row[3] > 0) {
                t.due(0, "says", 0, 0, row[3] - 1, 0);
                t.due(1, "says", 0, 0, row[3], 0);
                t.onlyAsks(Due.NO, "force", 0, 0);
            }
        }
        // A king with eight others bears 40 more.
        Trial t = new Trial(17).nine(MAN, 58, 0, 7);
        t.call("turns", 8, KING);
        t.onlyAsks(99, "force", 8, 0);
        t.call("set", 8, 1, 59);
        t.onlyAsks(Due.NONE, "force", 8, 0);
        t.onlyAsks(80, "force", 8, 7);
    }

    /** What bears gives is held to 99: of the sore topic there is a force yet. */
    private static void forceByATextAtTheBounds() {
        Trial t = new Trial(17).man(MAN, 0, 0, 7);
        t.text("bears 9999");
        t.onlyAsks(Due.NONE, "force", 0, 0);
        t.onlyAsks(80, "force", 0, 7);
        t.text("bears 0-9999");
        t.onlyAsks(1, "force", 0, 0);
        t.onlyAsks(1, "force", 0, 7);
    }

    /** "BEHIND n (0 .. 100) GOES": behind none all is as it is. */
    private static void behindNoGoes() {
        Trial t = Trial.house(18);
        t.call("set", 3, 4, 9999);
        t.onlyAsks(t.call("alley", 0), "behind", 0, 0);
        t.onlyAsks(t.call("alley", 1), "behind", 0, 1);
        t.onlyAsks(5, "behind", 0, 2);
        for (int man = 0; man < 6; man++) {
            t.onlyAsks(t.call("told", man, 4), "behind", 0, 3 + man);
        }
        // It is not set up when none stands, for that is the next go's.
        t = allDownBut(new Trial(18).nine(MAN, 0, 0, 0), -1);
        t.onlyAsks(0, "behind", 0, 2);
        t.onlyAsks(0, "behind", 0, 1);
        t.onlyAsks(1, "behind", 1, 1);
        new Trial(18).onlyAsks(0, "behind", 0, 2);
    }

    /** The same: behind a hundred it is as a hundred goes make it. */
    private static void behindAHundred() {
        Trial t = Trial.house(18);
        Trial u = Trial.house(18);
        u.call("goes", 100);
        t.onlyAsks(u.call("alley", 0), "behind", 100, 0);
        t.onlyAsks(u.call("alley", 1), "behind", 100, 1);
        t.onlyAsks(u.call("count", 2), "behind", 100, 2);
        for (int man = 0; man < 6; man++) {
            t.onlyAsks(u.call("told", man, 4), "behind", 100, 3 + man);
        }
    }

    /** "3 and k: FELLED of MAN k. BAD: 3 and k of no MAN, too." */
    private static void behindEachMan() {
        Trial t = new Trial(18);
        t.refused(Due.BAD, "behind", 1, 3);
        for (int men = 1; men <= 9; men++) {
            t.man(JIM, 0, 0, 0);
            t.call("set", men - 1, 4, 10 * men);
            t.onlyAsks(10 * men, "behind", 1, 2 + men);
            t.refused(Due.BAD, "behind", 1, 3 + men);
        }
    }

    /** "z as it is, without the bound of THE GO". */
    private static void behindTheLastGo() {
        Trial t = atLastGo(new Trial(18).nine(JIM, 50, 0, 0));
        int set = t.call("alley", 1);
        t.onlyAsks(set, "behind", 0, 1);
        t.onlyAsks(set + 33 + (t.call("alley", 2) == 3 ? 1 : 0), "behind", 100, 1);
        // One who falls by any force but 0 falls behind it, too.
        t = atLastGo(new Trial(18).man(MAN, 0, 0, 0));
        t.text("bears 0");
        int fell = t.call("alley", 0);
        Due.due(18, "one falls behind the last go", 1, t.call("behind", 100, 0) > fell + 90 ? 1 : 0);
        t.due(9999, "count", 1);
    }

    private static int z;

    private static int draw() {
        z = z * 1103515245 + 12345;
        return z >>> 8;
    }

    /** The go (from 1 on) that says something with a force above 98, or above 78 of topic 0, first; most and 1 if none does. */
    private static int firstHard(int seed, int most) {
        z = seed;
        for (int n = 1; n <= most; n++) {
            int topic = draw() % 8;
            int force = draw() % 100;
            draw();
            draw();
            if (force > (topic == 0 ? 78 : 98)) {
                return n;
            }
        }
        return most + 1;
    }

    private static int seedOfFirstHard(int go) {
        for (int seed = 0; seed < 10000000; seed++) {
            if (firstHard(seed, 210) == go) {
                return seed;
            }
        }
        throw new IllegalStateException("no such z");
    }

    private static Trial hard(int promise, int seed) {
        Trial t = new Trial(promise).man(MAN, 0, 0, 0);
        t.text("bears 98");
        t.call("seed", seed);
        return t;
    }

    /** "behind how many GOES (1 .. 200) its FELLED is more than now first": 1 at least. */
    private static void fallsByTheFirst() {
        for (int go = 1; go <= 3; go++) {
            hard(19, seedOfFirstHard(go)).onlyAsks(go, "falls", 0);
        }
        // More than now, not more than 0.
        Trial t = hard(19, seedOfFirstHard(2));
        t.call("set", 0, 4, 77);
        t.onlyAsks(2, "falls", 0);
        // One that is down falls behind the next setting up at the earliest.
        t = hard(19, seedOfFirstHard(1));
        t.man(JIM, 0, 0, 0);
        t.call("set", 0, 5, 1);
        t.call("seed", seedOfFirstHard(1));
        Due.due(19, "one that is down falls behind a setting up", 1, t.call("falls", 0) > 3 ? 1 : 0);
    }

    /** The same: 200 at most; "NONE: not by then". */
    private static void fallsByTheTwoHundredth() {
        hard(19, seedOfFirstHard(199)).onlyAsks(199, "falls", 0);
        hard(19, seedOfFirstHard(200)).onlyAsks(200, "falls", 0);
        hard(19, seedOfFirstHard(201)).refused(Due.NONE, "falls", 0);
        hard(19, seedOfFirstHard(202)).refused(Due.NONE, "falls", 0);
    }

    /** "FELLED (.. 9999 at most)": it is never more than that. */
    private static void fallsOfFelledAtMost() {
        Trial t = hard(19, seedOfFirstHard(5));
        t.call("set", 0, 4, 9998);
        t.onlyAsks(5, "falls", 0);
        t.call("set", 0, 4, 9999);
        t.refused(Due.NONE, "falls", 0);
    }

    /** "without the bound of THE GO". */
    private static void fallsBehindTheLastGo() {
        Trial t = atLastGo(new Trial(19).man(JIM, 0, 0, 0));
        t.call("turns", 0, MAN);
        t.text("bears 98");
        t.call("sets");
        t.call("seed", seedOfFirstHard(200));
        t.onlyAsks(200, "falls", 0);
    }

    /** "the KIND of which it had best be .. so that its FELLED is least behind n GOES; of several the least." */
    private static void becomesOfSeveralTheLeast() {
        // By a FORCE of 0 none falls, of whatever kind: 0 is the least of six, though he is a JIM now.
        int seed = 0;
        while (firstSaying(seed)[1] != 0) {
            seed++;
        }
        for (int kind = 0; kind < 6; kind++) {
            Trial t = new Trial(20).man(kind, 0, 0, 0);
            t.call("seed", seed);
            t.onlyAsks(0, "becomes", 0, 1, 0);
            t.onlyAsks(0, "becomes", 0, 1, 1);
        }
        // By 99 of topic 0 a JIM and a CHAPEL stand: CHAPEL is the lesser.
        seed = 0;
        while (firstSaying(seed)[0] != 0 || firstSaying(seed)[1] != 99) {
            seed++;
        }
        Trial t = new Trial(20).man(MAN, 0, 0, 0);
        t.call("seed", seed);
        t.onlyAsks(CHAPEL, "becomes", 0, 1, 0);
        t.onlyAsks(0, "becomes", 0, 1, 1);
        // Of another topic, JIM alone does.
        seed = 0;
        while (firstSaying(seed)[0] == 0 || firstSaying(seed)[1] != 99) {
            seed++;
        }
        t = new Trial(20).man(MAN, 0, 0, 0);
        t.call("seed", seed);
        t.onlyAsks(JIM, "becomes", 0, 1, 0);
        t.onlyAsks(0, "becomes", 0, 1, 1);
    }

    private static int[] firstSaying(int seed) {
        z = seed;
        return new int[] {draw() % 8, draw() % 100};
    }

    /** "for n (1 .. 60)". */
    private static void becomesAtTheBoundsOfN() {
        int[] ns = {1, 59, 60};
        for (int n : ns) {
            Trial t = new Trial(20).nine(MAN, 30, 40, 2);
            int[] felled = new int[6];
            int best = 0;
            for (int kind = 0; kind < 6; kind++) {
                t.call("turns", 4, kind);
                felled[kind] = t.call("behind", n, 7);
                best = felled[kind] < felled[best] ? kind : best;
            }
            t.onlyAsks(best, "becomes", 4, n, 0);
            t.onlyAsks(felled[best], "becomes", 4, n, 1);
        }
    }

    /** "FELLED (.. 9999 at most)": all kinds have it alike then. */
    private static void becomesOfFelledAtMost() {
        Trial t = new Trial(20).man(JIM, 0, 0, 0);
        t.call("set", 0, 4, 9999);
        t.onlyAsks(0, "becomes", 0, 60, 0);
        t.onlyAsks(9999, "becomes", 0, 60, 1);
        t.call("set", 0, 4, 9998);
        t.onlyAsks(JIM, "becomes", 0, 60, 0);
        t.onlyAsks(9998, "becomes", 0, 60, 1);
    }

    /** "without the bound of THE GO": one who would stay a MAN were there no goes left. */
    private static void becomesBehindTheLastGo() {
        Trial t = atLastGo(new Trial(20).man(MAN, 0, 0, 0));
        t.call("set", 0, 1, 0);
        t.call("set", 0, 4, 5);
        t.onlyAsks(JIM, "becomes", 0, 60, 0);
        t.onlyAsks(5, "becomes", 0, 60, 1);
    }

    /** "places k that are numbers (k from 0 on)": none at all. */
    private static void likeWithoutPlaces() {
        for (int sort = 0; sort < 2; sort++) {
            Trial t = new Trial(21).row(0, sort).man(MAN, 5, 0, 0).man(MAN, 0, 0, 0);
            t.onlyAsks(0, "like", 0, 0);
            t.onlyAsks(0, "like", 0, 1);
        }
    }

    /** The same: a place that is NO NUMBER counts for none, but its go is gone. */
    private static void likeWithoutNumbers() {
        Trial t = new Trial(21).row(3, 1, Due.NONE, Due.NONE, Due.NONE).man(JIM, 5, 0, 0).man(JIM, 0, 0, 0);
        t.onlyAsks(0, "like", 3, 0);
        t.onlyAsks(0, "like", 3, 1);
        t.call("mark", 3, 2, 3);
        t.onlyAsks(1, "like", 3, 0);
        t.onlyAsks(1, "like", 3, 1);
        t.call("mark", 3, 2, 7);
        t.onlyAsks(0, "like", 3, 0);
        t.onlyAsks(0, "like", 3, 1);
    }

    /** "of several the least". */
    private static void likeOfSeveralTheLeast() {
        Trial t = new Trial(21).row(0, 0, 50).man(JIM, 60, 0, 0).man(JIM, 40, 0, 0).man(JIM, 60, 0, 0);
        t.onlyAsks(0, "like", 0, 0);
        t.onlyAsks(10, "like", 0, 1);
        t.call("set", 0, 1, 61);
        t.onlyAsks(1, "like", 0, 0);
        t.call("set", 1, 1, 39);
        t.onlyAsks(2, "like", 0, 0);
        t.onlyAsks(10, "like", 0, 1);
    }

    /** "(signs left out), together": differences above and below don't make up for one another. */
    private static void likeSignsLeftOut() {
        Trial t = new Trial(21).row(0, 1, 60, 41).man(JIM, 50, 0, 0).man(JIM, 59, 0, 0);
        t.onlyAsks(10 + 10, "like", 0, 1);
        t.onlyAsks(0, "like", 0, 0);
        t.call("mark", 0, 1, 42);
        t.onlyAsks(10 + 9, "like", 0, 1);
        t.onlyAsks(0, "like", 0, 0);
        t.call("mark", 0, 0, 61);
        t.call("mark", 0, 1, 59);
        t.onlyAsks(2 + 1, "like", 0, 1);
        t.onlyAsks(1, "like", 0, 0);
    }

    /** 24 places, the least and the most that each sort holds. */
    private static void likeAtTheBounds() {
        int[][] rows = {{0, -32768}, {0, 32767}, {1, -99999}, {1, 99999}};
        for (int[] row : rows) {
            Trial t = new Trial(21).man(JIM, 99, 0, 0).man(JIM, 0, 0, 0);
            t.call("sheet", 0, row[0], 24);
            for (int k = 0; k < 24; k++) {
                t.call("mark", 0, k, row[1]);
            }
            // JIM 0 has 99 all the time, JIM 1 has k behind k goes.
            int due = row[1] < 0 ? -24 * row[1] + 23 * 12 : 24 * row[1] - 24 * 99;
            t.onlyAsks(row[1] < 0 ? 1 : 0, "like", 0, 0);
            t.onlyAsks(due, "like", 0, 1);
        }
        // Nine men, the last of whom is the most like.
        Trial nine = new Trial(21).nine(JIM, 99, 0, 0).row(0, 0, 10).row(1, 0, 99);
        nine.call("set", 8, 1, 12);
        nine.onlyAsks(8, "like", 0, 0);
        nine.onlyAsks(2, "like", 0, 1);
        nine.onlyAsks(0, "like", 1, 0);
        nine.onlyAsks(0, "like", 1, 1);
        // The last place is that behind 23 goes.
        Trial t = new Trial(21).man(JIM, 40, 0, 0);
        t.call("sheet", 0, 1, 24);
        for (int k = 0; k < 23; k++) {
            t.call("mark", 0, k, Due.NONE);
        }
        t.call("mark", 0, 23, 63);
        t.onlyAsks(0, "like", 0, 1);
        t.call("mark", 0, 23, 64);
        t.onlyAsks(1, "like", 0, 1);
    }

    /** "NERVE behind k GOES", without the bound of THE GO. */
    private static void likeBehindTheLastGo() {
        Trial t = atLastGo(new Trial(21).man(JIM, 0, 0, 0));
        t.call("set", 0, 1, 10);
        t.row(0, 0, 10, 11, 12, 13, 14);
        t.onlyAsks(0, "like", 0, 1);
    }

    /** "(what fee gives is told by fee(); without a TEXT: FELL)"; "Ints wrap": it is not held. */
    private static void feeWraps() {
        Trial t = new Trial(22).man(MAN, 0, 0, 0);
        t.onlyAsks(0, "fee");
        t.call("says", 0, 0, 99, 0);
        t.onlyAsks(1, "fee");
        t.text("fee 0-f-s");
        t.onlyAsks(-1, "fee");
        t.call("sets");
        t.onlyAsks(-2, "fee");
        t.text("fee 1024*1024*1024*2");
        t.onlyAsks(Trial.MIN, "fee");
        t.text("fee 1024*1024*1024*2-1");
        t.onlyAsks(Trial.MAX, "fee");
        t.text("fee 100+f");
        t.onlyAsks(101, "fee");
    }

    /** "(what fine gives for a MAN is told by fine(); without a TEXT: NERVE)"; "Ints wrap": it is not held. */
    private static void fineWraps() {
        Trial t = new Trial(23).man(MAN, 99, 0, 0).man(MAN, 0, 99, 0);
        t.onlyAsks(99, "fine", 0);
        t.onlyAsks(0, "fine", 1);
        t.text("fine 0-w*1000-n");
        t.onlyAsks(-99, "fine", 0);
        t.onlyAsks(-99000, "fine", 1);
        t.text("fine (n+1)*w/n");
        t.onlyAsks(0, "fine", 0);
        t.onlyAsks(0, "fine", 1);
        t.text("fine n*9999*9999");
        t.onlyAsks(99 * 9999 * 9999, "fine", 0);
    }

    /** "(All that follows is only thought: nothing changes.)" */
    private static void onlyThought() {
        Object[][] calls = {{14, "best", new int[] {70, 0}}, {15, "pair", new int[] {70}}, {16, "clear", new int[] {70}}, {17, "force", new int[] {0, 0}},
            {18, "behind", new int[] {50, 0}}, {19, "falls", new int[] {3}}, {20, "becomes", new int[] {3, 60, 1}}, {21, "like", new int[] {0, 1}},
            {22, "fee", new int[0]}, {23, "fine", new int[] {0}}};
        for (Object[] row : calls) {
            Trial t = Trial.house((int) row[0]);
            Trial u = Trial.house((int) row[0]);
            String name = (String) row[1];
            int[] numbers = (int[]) row[2];
            t.onlyAsks(u.call(name, numbers), name, numbers);
        }
    }
}
