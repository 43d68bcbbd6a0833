/** The boundary cases that promises 1 to 11, and parts 1 and 2 of the Terms, name; each method quotes its sentence. */
public final class MenEdgesTest {
    private static final int MIN = Trial.MIN, MAX = Trial.MAX;
    private static final int MAN = 0, STOUT = 1, CHAPEL = 2, KING = 3, ELDER = 4, JIM = 5;

    public static void main(String[] args) {
        newIsEmpty();
        nineAtMost();
        numbersOfAManAtTheirBounds();
        comesStandingAndUnfelled();
        plainIsHeld();
        soreIsNotBelowZero();
        soreIsOneTopicAlone();
        stoutCutsTheTenth();
        kingCountsTheOthersThatStand();
        chapelAndTopicZero();
        elderIsNotBelowZero();
        jimBearsAlike();
        pushesAtTheBounds();
        worthAtTheBounds();
        asEachKindAbove();
        turnsKeepsTheRest();
        setAtTheBounds();
        fallsByMoreAlone();
        forceAtTheBounds();
        pushIsMoreAlone();
        pushOfNothing();
        pushOfTheOneAhead();
        nobodyBehind();
        turnGoesWithAllThatFall();
        behindIsNotThere();
        behindIsDown();
        oneFallsOnce();
        leftAheadOfRight();
        felledAtMost();
        setsAtTheBounds();
        dealAsManyAsThereIsRoom();
        dealDraws();
        seedAnyNumber();
        Due.end();
    }

    /** "As told; no MEN." */
    private static void newIsEmpty() {
        Trial t = new Trial(1);
        int[] counts = {0, 0, 0, 0, 0, 0, 1};
        for (int what = 0; what < 7; what++) {
            t.due(counts[what], "count", what);
        }
        for (int what = 0; what < 5; what++) {
            t.due(0, "alley", what);
        }
        t.due(Due.NONE, "alley", 5);
        for (int key = 0; key < 3; key++) {
            t.due(Due.NONE, "why", key);
        }
        for (int sheet = 0; sheet < 4; sheet++) {
            t.due(Due.NOTHING, "reads", sheet);
        }
        for (int slot = 0; slot < 5; slot++) {
            t.due(Due.NOTHING, "item", slot, 0);
        }
        t.due(0, "fee");
        t.due(Due.NO, "back");
        t.due(Due.NO, "check", 1);
        t.due(-100, "text");
    }

    /** "MEN, 9 at most, numbered from 0". */
    private static void nineAtMost() {
        Trial t = new Trial(2);
        for (int i = 0; i < 9; i++) {
            t.due(i, "man", MAN, 50, 50, 0);
            t.due(i + 1, "count", 0);
            t.due((1 << i + 1) - 1, "alley", 3);
        }
        t.due(Due.FULL, "man", MAN, 50, 50, 0);
        t.due(9, "count", 0);
    }

    /** "NERVE 0 .. 99, WEIGHT 0 .. 99, SORE (a TOPIC 0 .. 7)", KINDS 0 .. 5. */
    private static void numbersOfAManAtTheirBounds() {
        int[][] men = {{0, 0, 0, 0}, {5, 0, 0, 0}, {0, 99, 0, 0}, {0, 0, 99, 0}, {0, 0, 0, 7}, {5, 99, 99, 7}};
        Trial t = new Trial(2);
        for (int i = 0; i < men.length; i++) {
            t.due(i, "man", men[i]);
            for (int what = 0; what < 4; what++) {
                t.due(men[i][what], "told", i, what);
            }
        }
    }

    /** "FELLED (how often; 0 at first ..), DOWN or not (not as it comes)", even where one was before it. */
    private static void comesStandingAndUnfelled() {
        Trial t = new Trial(2);
        t.call("keep");
        t.man(MAN, 0, 0, 0);
        t.due(1, "says", 0, 0, 99, 0);
        t.due(0, "back");
        t.due(0, "man", MAN, 1, 2, 3);
        t.due(0, "told", 0, 4);
        t.due(0, "told", 0, 5);
        t.due(1, "alley", 3);
        t.call("set", 0, 5, 1);
        t.call("set", 0, 4, 9999);
        t.due(0, "back");
        t.due(1, "deal", 1);
        t.due(0, "told", 0, 4);
        t.due(0, "told", 0, 5);
    }

    /** "PLAIN bears: what bears gives, held within 0 and 99 (without a TEXT: NERVE)." */
    private static void plainIsHeld() {
        String[] gives = {"0-1", "0", "1", "98", "99", "100", "9999", "0-9999"};
        int[] due = {0, 0, 1, 98, 99, 99, 99, 0};
        for (int i = 0; i < gives.length; i++) {
            Trial t = new Trial(4).man(MAN, 44, 0, 7);
            t.due(44, "bears", 0, 0);
            t.text("bears " + gives[i]);
            t.due(due[i], "bears", 0, 0);
            t.due(44, "told", 0, 1);
        }
        // Ints wrap ahead of being held: 2 to the 31st is far below 0, one less far above 99.
        Trial t = new Trial(4).man(MAN, 44, 0, 7);
        t.text("bears 1024*1024*1024*2");
        t.due(0, "bears", 0, 0);
        t.text("bears 1024*1024*1024*2-1");
        t.due(99, "bears", 0, 0);
    }

    /** "20 less (0 at least), if it is SORE." */
    private static void soreIsNotBelowZero() {
        int[][] nerves = {{0, 0}, {19, 0}, {20, 0}, {21, 1}, {99, 79}};
        for (int[] row : nerves) {
            Trial t = new Trial(4).man(MAN, row[0], 0, 3);
            t.due(row[1], "bears", 0, 3);
            t.due(row[0], "bears", 0, 2);
        }
        // What is held to 99 first is 20 less then.
        Trial t = new Trial(4).man(MAN, 0, 0, 3);
        t.text("bears 115");
        t.due(79, "bears", 0, 3);
        t.text("bears 0-5");
        t.due(0, "bears", 0, 3);
    }

    /** "SORE (a TOPIC 0 .. 7)". */
    private static void soreIsOneTopicAlone() {
        for (int sore = 0; sore < 8; sore++) {
            Trial t = new Trial(4).man(MAN, 50, 0, sore);
            for (int topic = 0; topic < 8; topic++) {
                t.due(topic == sore ? 30 : 50, "bears", 0, topic);
            }
        }
    }

    /** "STOUT: as MAN, and a tenth (cut) of WEIGHT." It may be above 99. */
    private static void stoutCutsTheTenth() {
        int[][] weights = {{0, 0}, {9, 0}, {10, 1}, {19, 1}, {20, 2}, {89, 8}, {90, 9}, {99, 9}};
        for (int[] row : weights) {
            Trial t = new Trial(4).man(STOUT, 99, row[0], 3);
            t.due(99 + row[1], "bears", 0, 0);
            t.due(79 + row[1], "bears", 0, 3);
        }
        // 0 at least is as MAN, and the tenth is more than that.
        new Trial(4).man(STOUT, 5, 99, 3).due(9, "bears", 0, 3);
    }

    /** "KING: as STOUT, and 5 for each other one that STANDS." */
    private static void kingCountsTheOthersThatStand() {
        new Trial(4).man(KING, 10, 19, 7).due(11, "bears", 0, 0);
        Trial t = new Trial(4).nine(MAN, 0, 0, 0);
        t.call("turns", 4, KING);
        t.call("set", 4, 1, 99);
        t.call("set", 4, 2, 99);
        t.due(99 + 9 + 40, "bears", 4, 1);
        // Down himself, he has all others yet.
        t.call("set", 4, 5, 1);
        t.due(99 + 9 + 40, "bears", 4, 1);
        for (int man = 0; man < 9; man++) {
            t.call("set", man, 5, 1);
        }
        t.due(99 + 9, "bears", 4, 1);
        t.call("set", 4, 5, 0);
        t.due(99 + 9, "bears", 4, 1);
    }

    /** "CHAPEL: as MAN; 99, if the TOPIC is 0." */
    private static void chapelAndTopicZero() {
        Trial t = new Trial(4).man(CHAPEL, 30, 99, 0).man(CHAPEL, 10, 99, 1).man(CHAPEL, 0, 0, 7);
        t.due(99, "bears", 0, 0);
        t.due(30, "bears", 0, 1);
        t.due(99, "bears", 1, 0);
        t.due(0, "bears", 1, 1);
        t.due(99, "bears", 2, 0);
        t.due(0, "bears", 2, 1);
        t.text("bears 0");
        t.due(99, "bears", 0, 0);
    }

    /** "ELDER: as CHAPEL, less 10 (0 at least)." */
    private static void elderIsNotBelowZero() {
        int[][] nerves = {{0, 0}, {9, 0}, {10, 0}, {11, 1}, {99, 89}};
        for (int[] row : nerves) {
            Trial t = new Trial(4).man(ELDER, row[0], 0, 3);
            t.due(row[1], "bears", 0, 2);
            t.due(89, "bears", 0, 0);
            t.due(Math.max(0, row[0] - 30), "bears", 0, 3);
        }
        // Each is held by itself: 15 is 0 of the sore topic, and 0 less 10 is 0.
        new Trial(4).man(ELDER, 15, 0, 3).due(0, "bears", 0, 3);
        // 99 of topic 0 is not 20 less, though it is sore.
        new Trial(4).man(ELDER, 15, 0, 0).due(89, "bears", 0, 0);
    }

    /** "JIM: 99." */
    private static void jimBearsAlike() {
        Trial t = new Trial(4).man(JIM, 0, 99, 3).man(MAN, 0, 0, 0);
        t.text("bears 0");
        for (int topic = 0; topic < 8; topic++) {
            t.due(99, "bears", 0, topic);
        }
    }

    /** "PUSHES: .. KING: half (cut) of as STOUT. CHAPEL: as MAN, less 10. ELDER: twice as CHAPEL. JIM: 0." None is held. */
    private static void pushesAtTheBounds() {
        int[] weights = {0, 1, 9, 10, 11, 98, 99};
        int[][] due = {
            {0, 1, 9, 10, 11, 98, 99}, {15, 16, 24, 25, 26, 113, 114}, {-10, -9, -1, 0, 1, 88, 89},
            {7, 8, 12, 12, 13, 56, 57}, {-20, -18, -2, 0, 2, 176, 178}, {0, 0, 0, 0, 0, 0, 0}};
        for (int kind = 0; kind < 6; kind++) {
            Trial t = new Trial(3).man(kind, 50, 0, 0);
            for (int i = 0; i < weights.length; i++) {
                t.call("set", 0, 2, weights[i]);
                t.due(due[kind][i], "told", 0, 6);
            }
        }
    }

    /** "WORTH: MAN: FELLED. STOUT: as MAN, and WEIGHT. KING: 5 times as STOUT. CHAPEL: 99 less NERVE. ELDER: half (cut) .. JIM: 500." */
    private static void worthAtTheBounds() {
        // felled, weight, nerve, then worth by kinds
        int[][] rows = {
            {0, 0, 0, 0, 0, 99, 0, 49, 500}, {9999, 99, 99, 9999, 10098, 0, 50490, 0, 500},
            {0, 99, 98, 0, 99, 1, 495, 0, 500}, {1, 0, 97, 1, 1, 2, 5, 1, 500}, {7, 3, 96, 7, 10, 3, 50, 1, 500}};
        for (int[] row : rows) {
            for (int kind = 0; kind < 6; kind++) {
                Trial t = new Trial(3).man(kind, row[2], row[1], 0);
                t.call("set", 0, 4, row[0]);
                t.due(row[3 + kind], "told", 0, 7);
            }
        }
    }

    /** "A MAN as one of a KIND: NERVE", of its own, of those above it; "KIND: it is not of that KIND, nor of one under it." */
    private static void asEachKindAbove() {
        String[] of = {"0", "01", "02", "013", "024", "05"};
        for (int kind = 0; kind < 6; kind++) {
            Trial t = new Trial(5).man(kind, kind == 0 ? 0 : 99, 0, 0);
            for (int as = 0; as < 6; as++) {
                t.onlyAsks(of[kind].indexOf('0' + as) < 0 ? Due.KIND : kind == 0 ? 0 : 99, "as", 0, as);
            }
        }
    }

    /** "A MAN is of another KIND from now on: what it was." */
    private static void turnsKeepsTheRest() {
        for (int was = 0; was < 6; was++) {
            for (int is = 0; is < 6; is++) {
                Trial t = new Trial(6).man(was, 12, 34, 5);
                t.call("set", 0, 4, 6);
                t.call("set", 0, 5, 1);
                t.due(was, "turns", 0, is);
                int[] due = {is, 12, 34, 5, 6, 1};
                for (int what = 0; what < 6; what++) {
                    t.due(due[what], "told", 0, what);
                }
            }
        }
    }

    /** "NERVE (what 1), WEIGHT (2), SORE (3), FELLED (4), DOWN (5; 0 or 1) of a MAN becomes v: what it was." */
    private static void setAtTheBounds() {
        int[] most = {0, 99, 99, 7, 9999, 1};
        for (int what = 1; what <= 5; what++) {
            Trial t = new Trial(7).man(MAN, 12, 34, 5).man(MAN, 12, 34, 5);
            int was = t.call("told", 1, what);
            t.due(was, "set", 1, what, most[what]);
            t.due(most[what], "told", 1, what);
            t.due(most[what], "set", 1, what, most[what]);
            t.due(most[what], "set", 1, what, 0);
            t.due(0, "told", 1, what);
            t.due(0, "set", 1, what, 0);
            t.due(was, "told", 0, what);
        }
        // To be set DOWN is not to fall, nor is it a setting up to stand again.
        Trial t = new Trial(7).man(MAN, 12, 34, 5);
        t.call("set", 0, 5, 1);
        t.due(0, "told", 0, 4);
        t.due(0, "alley", 0);
        t.call("set", 0, 5, 0);
        t.due(0, "alley", 1);
    }

    /** "it falls, if what it BEARS of the TOPIC is less than FORCE." */
    private static void fallsByMoreAlone() {
        Trial t = new Trial(8).man(MAN, 50, 0, 7);
        t.due(0, "says", 0, 0, 49, 0);
        t.due(0, "says", 0, 0, 50, 0);
        t.due(0, "told", 0, 5);
        t.due(0, "told", 0, 4);
        t.due(0, "alley", 0);
        t.due(1, "says", 0, 0, 51, 0);
        t.due(1, "told", 0, 5);
        t.due(1, "told", 0, 4);
        t.due(1, "alley", 0);
    }

    /** "a FORCE 0 .. 99": 0 fells none, 99 none who bears 99. */
    private static void forceAtTheBounds() {
        for (int turn = -1; turn <= 1; turn++) {
            Trial t = new Trial(8).man(MAN, 0, 99, 7).man(MAN, 98, 0, 6).man(MAN, 99, 0, 6).man(JIM, 0, 0, 6);
            t.due(0, "says", 0, 7, 0, turn);
            t.due(1, "says", 1, 0, 99, turn);
            t.due(0, "says", 2, 0, 99, turn);
            t.due(0, "says", 3, 6, 99, turn);
            t.due(1, "says", 0, 1, 1, turn);
        }
    }

    /** "falls, too .., if what it BEARS of the TOPIC is less than what the first one PUSHES". */
    private static void pushIsMoreAlone() {
        for (int weight = 49; weight <= 51; weight++) {
            Trial t = new Trial(8).man(MAN, 0, weight, 7).man(MAN, 50, 0, 7).man(MAN, 50, 0, 7);
            t.due(weight > 50 ? 3 : 1, "says", 0, 0, 1, 0);
            t = new Trial(8).man(MAN, 0, weight, 7).man(MAN, 70, 0, 6).man(MAN, 70, 0, 5);
            t.due(weight > 50 ? 2 : 1, "says", 0, 6, 1, 0);
            t.due(weight > 50 ? 4 : 6, "alley", 3);
        }
    }

    /** A push of 0, or below, fells none, even one who bears 0. */
    private static void pushOfNothing() {
        int[][] ahead = {{MAN, 0}, {CHAPEL, 10}, {CHAPEL, 0}, {ELDER, 10}, {ELDER, 0}};
        for (int[] row : ahead) {
            Trial t = new Trial(8).man(row[0], 0, row[1], 7).man(MAN, 0, 0, 7).man(MAN, 0, 0, 7);
            t.due(1, "says", 0, 1, 99, 0);
            t.due(6, "alley", 3);
        }
        // JIM falls by nothing, so none falls by JIM; one who pushes 1 fells those who bear 0.
        Trial t = new Trial(8).man(MAN, 0, 1, 7).man(MAN, 0, 0, 7).man(MAN, 0, 0, 7);
        t.due(3, "says", 0, 1, 1, 0);
    }

    /** "likewise, with all that it takes": by what the one right ahead of it pushes, not by FORCE or the first of all. */
    private static void pushOfTheOneAhead() {
        Trial t = new Trial(8).man(MAN, 0, 99, 7).man(MAN, 0, 5, 7).man(JIM, 0, 0, 7).man(MAN, 10, 0, 7);
        t.due(2, "says", 0, 0, 99, 0);
        t.due(12, "alley", 3);
        t = new Trial(8).man(MAN, 0, 20, 7).man(MAN, 10, 99, 7).man(JIM, 0, 0, 7).man(MAN, 50, 0, 7);
        t.due(3, "says", 0, 0, 1, 0);
        t.due(4, "alley", 3);
    }

    /** "on the left behind 0 .. 7 are 1, 3, 4, nobody, 6, 7, nobody, 8 (behind 8 nobody), on the right .. nobody, 8, nobody." */
    private static void nobodyBehind() {
        int[] left = {1, 3, 4, -1, 6, 7, -1, 8, -1};
        int[] right = {2, 4, 5, 6, 7, -1, 8, -1, -1};
        for (int man = 0; man < 9; man++) {
            for (int turn = -1; turn <= 1; turn += 2) {
                int behind = turn < 0 ? left[man] : right[man];
                // All but the one that is told bear more than it pushes, but for the one behind it, which pushes nobody.
                Trial t = new Trial(8).nine(MAN, 90, 0, 7);
                t.call("set", man, 1, 0);
                t.call("set", man, 2, 50);
                for (int other = 0; other < 9; other++) {
                    if (other == left[man] || other == right[man]) {
                        t.call("set", other, 1, 40);
                    }
                }
                t.due(behind < 0 ? 1 : 2, "says", man, 0, 1, turn);
                t.due(511 & ~(1 << man) & ~(behind < 0 ? 0 : 1 << behind), "alley", 3);
            }
        }
        Trial t = new Trial(8).nine(MAN, 0, 99, 7);
        t.due(1, "says", 8, 0, 99, 0);
    }

    /** "a TURN (-1 to the left, 0, 1 to the right)", "likewise": it is that of all that fall by the one saying. */
    private static void turnGoesWithAllThatFall() {
        int[][] rows = {{-1, 0, 1, 3}, {1, 0, 2, 5}, {-1, 2, 4, 6}, {1, 1, 4, 7}, {-1, 5, 7, 8}, {1, 3, 6, 8}};
        for (int[] row : rows) {
            Trial t = new Trial(8).nine(MAN, 0, 99, 7);
            t.due(3, "says", row[1], 0, 1, row[0]);
            t.due(511 & ~(1 << row[1] | 1 << row[2] | 1 << row[3]), "alley", 3);
        }
        Trial t = new Trial(8).nine(MAN, 0, 99, 7);
        t.due(9, "says", 0, 0, 1, 0);
    }

    /** "the one on the left behind it, if it STANDS": where fewer men are than places. */
    private static void behindIsNotThere() {
        int[] due = {1, 2, 3, 4, 5, 6, 7, 8, 9};
        for (int men = 1; men <= 9; men++) {
            Trial t = new Trial(8);
            for (int i = 0; i < men; i++) {
                t.man(MAN, 0, 99, 7);
            }
            t.due(due[men - 1], "says", 0, 0, 1, 0);
            t.due(0, "alley", 3);
        }
        new Trial(8).man(MAN, 0, 99, 7).man(MAN, 0, 99, 7).due(1, "says", 1, 0, 1, 0);
    }

    /** "One STANDS, if it is there and not DOWN": one that is DOWN does not fall again, and takes none with it. */
    private static void behindIsDown() {
        Trial t = new Trial(8).man(MAN, 0, 99, 7).man(MAN, 0, 99, 7).man(JIM, 0, 0, 7).man(MAN, 0, 99, 7);
        t.call("set", 1, 5, 1);
        t.due(1, "says", 0, 0, 1, 0);
        t.due(0, "told", 1, 4);
        t.due(12, "alley", 3);
        t.due(1, "alley", 0);
    }

    /** One behind two falls once. */
    private static void oneFallsOnce() {
        Trial t = new Trial(8).nine(MAN, 0, 99, 7);
        t.due(9, "says", 0, 0, 1, 0);
        for (int man = 0; man < 9; man++) {
            t.due(1, "told", man, 4);
        }
        t.due(9, "alley", 0);
    }

    /** "then, TURN not being 1, the one on the left ..; then, TURN not being -1, the one on the right": with all on the left ahead. */
    private static void leftAheadOfRight() {
        // A king on the right bears 5 for each that stands; all on the left have fallen, with what they take, ahead of him.
        Trial t = new Trial(8).man(MAN, 0, 6, 7).man(MAN, 0, 1, 7).man(KING, 5, 0, 7).man(MAN, 0, 1, 7);
        t.due(4, "says", 0, 0, 1, 0);
        t = new Trial(8).man(MAN, 0, 6, 7).man(KING, 5, 0, 7).man(MAN, 0, 1, 7).man(JIM, 0, 0, 7);
        t.due(2, "says", 0, 0, 1, 0);
        t.due(10, "alley", 3);
        // 4 falls with 1, while 2 stands yet, and bears 10; were 2 down ahead of that, it would bear 99.
        t = new Trial(8).nine(MAN, 0, 11, 7);
        for (int man = 5; man < 9; man++) {
            t.call("set", man, 5, 1);
        }
        t.call("set", 3, 5, 1);
        t.call("set", 4, 4, 1);
        t.text("bears f*((s<2)*89+10)");
        t.due(4, "says", 0, 0, 1, 0);
    }

    /** "FELLED (.. 9999 at most)", while FELL is 1 more yet. */
    private static void felledAtMost() {
        Trial t = new Trial(8).man(MAN, 0, 99, 7).man(MAN, 0, 0, 7);
        t.call("set", 0, 4, 9998);
        t.call("set", 1, 4, 9999);
        t.due(2, "says", 0, 0, 1, 0);
        t.due(9999, "told", 0, 4);
        t.due(9999, "told", 1, 4);
        t.due(2, "alley", 0);
        t.call("sets");
        t.due(2, "says", 0, 0, 1, 0);
        t.due(9999, "told", 0, 4);
        t.due(4, "alley", 0);
    }

    /** "All MEN STAND, GOES is 0, SET 1 more: how many were DOWN": none, some, all; and without MEN. */
    private static void setsAtTheBounds() {
        Trial t = new Trial(9);
        t.due(0, "sets");
        t.due(1, "alley", 1);
        t.nine(JIM, 50, 50, 0);
        t.due(0, "sets");
        t.due(2, "alley", 1);
        t.call("goes", 3);
        t.due(3, "alley", 2);
        t.call("set", 0, 5, 1);
        t.call("set", 8, 5, 1);
        t.due(2, "sets");
        t.due(511, "alley", 3);
        t.due(0, "alley", 2);
        t.due(3, "alley", 1);
        t.due(3, "count", 1);
        for (int man = 0; man < 9; man++) {
            t.call("set", man, 5, 1);
        }
        t.due(9, "sets");
        t.due(511, "alley", 3);
        t.due(0, "alley", 0);
    }

    private static int z;

    private static int draw() {
        z = z * 1103515245 + 12345;
        return z >>> 8;
    }

    /** "n (1 .. 9) of them, as many as there is room for (no draws for others): how many came." */
    private static void dealAsManyAsThereIsRoom() {
        for (int there = 0; there <= 9; there++) {
            for (int n = 1; n <= 9; n += 4) {
                Trial t = new Trial(10);
                for (int i = 0; i < there; i++) {
                    t.man(MAN, 0, 0, 0);
                }
                int come = Math.min(n, 9 - there);
                t.due(come, "deal", n);
                t.due(there + come, "count", 0);
                z = 1;
                for (int i = 0; i < 4 * come; i++) {
                    draw();
                }
                t.due(z, "count", 6);
            }
        }
    }

    /** "z becomes z * 1103515245 + 12345 (an int); it gives z >>> 8": it wraps, and what a z below 0 gives is not below 0. */
    private static void dealDraws() {
        int[] seeds = {0, 1, -1, MIN, MAX, 123456789, -987654321};
        for (int seed : seeds) {
            Trial t = new Trial(10);
            t.call("seed", seed);
            t.due(9, "deal", 9);
            z = seed;
            for (int man = 0; man < 9; man++) {
                int[] by = {6, 100, 100, 8};
                for (int what = 0; what < 4; what++) {
                    t.due(draw() % by[what], "told", man, what);
                }
            }
            t.due(z, "count", 6);
        }
    }

    /** "z becomes v: what it was." */
    private static void seedAnyNumber() {
        Trial t = new Trial(11);
        t.due(1, "seed", MIN);
        t.due(MIN, "seed", MAX);
        t.due(MAX, "seed", 0);
        t.due(0, "seed", Due.BAD);
        t.due(Due.BAD, "seed", -1);
        t.due(-1, "count", 6);
    }
}
