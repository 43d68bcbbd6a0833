/** The boundary cases that promises 38 to 42 name, and how long an object is used; each method quotes its sentence. */
public final class RowEdgesTest {
    private static final int MIN = Trial.MIN, MAX = Trial.MAX;
    private static final int MAN = 0, JIM = 5;

    public static void main(String[] args) {
        sixtyWait();
        checkOfOneAndThirty();
        checkOfNoNumbers();
        checkFirstThatIsNot();
        checkMissing();
        checkOneTooMany();
        checkNearTheLastGo();
        checkByTheImageOnly();
        checkWithoutMen();
        keepOfNoneAndNine();
        keepOfAllThatIsFull();
        backAgainAndAgain();
        backMakesRoom();
        backTakesTextsBack();
        keepAnew();
        whatNoImageKeeps();
        countAtTheBounds();
        upToThe512thCall();
        Due.end();
    }

    /** "One more number waits: how many. FULL: 60 wait." */
    private static void sixtyWait() {
        Trial t = new Trial(38);
        for (int i = 1; i <= 60; i++) {
            t.due(i, "tell", i % 2 == 0 ? MIN : MAX);
            t.due(i, "count", 4);
        }
        t.refused(Due.FULL, "tell", 0);
        t.due(Due.NO, "check", 1);
        t.due(1, "tell", 0);
    }

    private static Trial kept(int promise) {
        Trial t = new Trial(promise).nine(MAN, 40, 50, 3);
        t.call("turns", 4, 3);
        t.call("seed", 77);
        t.call("goes", 2);
        t.call("keep");
        return t;
    }

    /** "of n (1 .. 30 ..)": 60 numbers are just those of 30 goes. */
    private static void checkOfOneAndThirty() {
        int[] ns = {1, 2, 29, 30};
        for (int n : ns) {
            Trial t = kept(39);
            Trial.tellGoes(t, n);
            t.due(2 * n, "count", 4);
            t.due(0, "check", n);
            t.due(0, "count", 4);
            t.due(1, "check", n);
        }
        Trial t = kept(39);
        Trial.tellGoes(t, 30);
        t.due(59, "check", 29);
    }

    /** "(or is missing ..)": none wait, so none stands ahead of the first. */
    private static void checkOfNoNumbers() {
        Trial t = kept(39);
        t.onlyAsks(1, "check", 1);
        t.onlyAsks(1, "check", 30);
    }

    /** "else 1 and how many stand right ahead of the first that is not". */
    private static void checkFirstThatIsNot() {
        for (int wrong = 0; wrong < 6; wrong++) {
            Trial t = kept(39);
            for (int i = 0; i < 3; i++) {
                t.call("goes", 1);
                for (int k = 0; k < 2; k++) {
                    int told = t.call("alley", 4 * k);
                    // Behind the first that is not, another one is not, too.
                    t.call("tell", 2 * i + k == wrong || 2 * i + k == 5 ? told + 1 : told);
                }
            }
            t.due(1 + wrong, "check", 3);
            t.due(0, "count", 4);
        }
    }

    /** "(or is missing ..)". */
    private static void checkMissing() {
        for (int told = 0; told < 4; told++) {
            Trial t = kept(39);
            for (int i = 0; i < told; i++) {
                if (i % 2 == 0) {
                    t.call("goes", 1);
                }
                t.call("tell", t.call("alley", i % 2 * 4));
            }
            t.due(1 + told, "check", 2);
        }
    }

    /** "(.. or one too many)". */
    private static void checkOneTooMany() {
        for (int more = 1; more <= 3; more++) {
            Trial t = kept(39);
            Trial.tellGoes(t, 2);
            for (int i = 0; i < more; i++) {
                t.call("tell", 0);
            }
            t.due(5, "check", 2);
        }
        // A wrong one ahead of it counts first.
        Trial t = kept(39);
        t.call("tell", -1);
        Trial.tellGoes(t, 1);
        t.due(1, "check", 1);
    }

    private static Trial keptAt(int go, int kind) {
        Trial t = new Trial(39).nine(kind, 40, 50, 3);
        for (int i = 0; i < go / 100; i++) {
            t.call("goes", 100);
        }
        if (go % 100 > 0) {
            t.call("goes", go % 100);
        }
        t.due(9, "keep");
        return t;
    }

    /** "(.. fewer, if THE GO would be above 9999)". */
    private static void checkNearTheLastGo() {
        for (int left = 0; left <= 3; left++) {
            for (int n = 1; n <= 4; n++) {
                Trial t = keptAt(9999 - left, MAN);
                int goes = Math.min(n, left);
                Trial.tellGoes(t, goes);
                t.due(0, "check", n);
                t.call("back");
                Trial.tellGoes(t, goes);
                t.call("tell", 0);
                t.due(1 + 2 * goes, "check", n);
            }
        }
        Trial t = keptAt(9969, MAN);
        Trial.tellGoes(t, 30);
        t.due(0, "check", 30);
        t = keptAt(9970, MAN);
        Trial.tellGoes(t, 29);
        t.due(0, "check", 30);
    }

    /** "by THE IMAGE": how far it has gone since is nothing to it. */
    private static void checkByTheImageOnly() {
        Trial t = kept(39);
        Trial.tellGoes(t, 3);
        for (int i = 0; i < 100; i++) {
            t.call("goes", 100);
        }
        t.due(9999, "count", 1);
        t.text("bears 99");
        t.call("turns", 0, JIM);
        t.due(0, "check", 3);
        t.due(9999, "count", 1);
    }

    /** "FELL; NERVE of all, together, behind each": of no MEN they are 0 each. */
    private static void checkWithoutMen() {
        Trial t = new Trial(39);
        t.due(0, "keep");
        for (int i = 0; i < 6; i++) {
            t.call("tell", 0);
        }
        t.due(0, "check", 3);
        t.call("tell", 0);
        t.call("tell", 1);
        t.due(2, "check", 1);
    }

    /** "AN IMAGE is kept: how many MEN." */
    private static void keepOfNoneAndNine() {
        Trial t = new Trial(40);
        t.due(0, "keep");
        t.due(0, "back");
        for (int men = 1; men <= 9; men++) {
            t.man(MAN, 1, 2, 3);
            t.due(men, "keep");
            t.due(men, "back");
        }
    }

    /** The same, of nine MEN and fourteen TEXTS; and what is thought of so many. */
    private static void keepOfAllThatIsFull() {
        Trial t = new Trial(40).nine(JIM, 5, 6, 7);
        for (int i = 0; i < 14; i++) {
            t.text(i % 2 == 0 ? "fee " + i : "fine " + i);
        }
        t.due(9, "keep");
        t.call("turns", 8, MAN);
        t.due(9, "back");
        t.due(JIM, "told", 8, 0);
        t.due(14, "count", 3);
        t.due(12, "why", 1);
        t.due(13, "why", 2);
        t.due(12, "fee");
        t.due(13, "fine", 8);
        t.onlyAsks(0, "behind", 100, 11);
        t.onlyAsks(Due.NONE, "falls", 8);
        t.call("tell", 0);
        t.call("tell", 9 * 6);
        t.due(0, "check", 1);
        t.put("fee 1");
        t.refusedWithTape(Due.FULL, "text");
    }

    /** "all can become as it is (again and again)". */
    private static void backAgainAndAgain() {
        Trial t = kept(41);
        int fell = t.call("alley", 0);
        int nerve = t.call("alley", 4);
        int z = t.call("count", 6);
        for (int i = 0; i < 3; i++) {
            t.call("goes", 50);
            t.call("turns", 0, JIM);
            t.call("set", 1, 4, 9999);
            t.call("seed", 0);
            t.due(9, "back");
            t.due(fell, "alley", 0);
            t.due(0, "alley", 1);
            t.due(2, "alley", 2);
            t.due(nerve, "alley", 4);
            t.due(z, "count", 6);
            t.due(2, "count", 1);
            t.due(0, "told", 0, 0);
            Due.due(41, "felled is back", 1, t.call("told", 1, 4) < 9999 ? 1 : 0);
            t.due(9, "back");
        }
    }

    /** What was full has room again. */
    private static void backMakesRoom() {
        Trial t = new Trial(41);
        t.due(0, "keep");
        for (int round = 0; round < 2; round++) {
            t.due(9, "deal", 9);
            t.due(Due.FULL, "man", 0, 0, 0, 0);
            for (int i = 0; i < 14; i++) {
                t.put("fee 1");
                t.due(i, "text");
            }
            t.put("fee 1");
            t.due(Due.FULL, "text");
            t.due(0, "back");
            t.due(0, "count", 0);
            t.due(0, "count", 3);
            t.due(0, "man", 0, 0, 0, 0);
            t.put("bears 1");
            t.due(0, "text");
            t.due(0, "textTold", 0, 0);
            t.due(Due.BAD, "textTold", 1, 0);
            t.due(0, "back");
        }
        // At the last go there are goes again.
        t = keptAt(9999, JIM);
        t.call("keep");
        t.due(0, "goes", 1);
        t = new Trial(41).man(JIM, 0, 0, 0);
        t.call("keep");
        for (int i = 0; i < 100; i++) {
            t.call("goes", 100);
        }
        t.due(9999, "count", 1);
        t.due(1, "back");
        t.due(0, "count", 1);
        t.due(0, "goes", 100);
        t.due(100, "count", 1);
    }

    /** "keeps all but SHEETS, SLOTS, numbers that wait, THE TAPE": so which TEXT counts, too. */
    private static void backTakesTextsBack() {
        Trial t = new Trial(41).man(MAN, 5, 6, 7);
        t.text("fee 1");
        t.text("bears 10");
        t.due(1, "keep");
        t.text("fee 2");
        t.text("bears 20");
        t.text("fine 3");
        t.due(2, "fee");
        t.due(3, "fine", 0);
        t.due(20, "bears", 0, 0);
        t.due(1, "back");
        t.due(1, "fee");
        t.due(5, "fine", 0);
        t.due(10, "bears", 0, 0);
        t.due(1, "why", 0);
        t.due(0, "why", 1);
        t.due(Due.NONE, "why", 2);
        t.due(2, "count", 3);
        // A text told now is none of the image's, though it has a number that one kept behind it had.
        t.text("fine 30");
        t.due(30, "fine", 0);
        t.due(1, "back");
        t.due(5, "fine", 0);
    }

    /** "AN IMAGE is kept": the last one alone. */
    private static void keepAnew() {
        Trial t = new Trial(40).man(MAN, 5, 6, 7);
        t.due(1, "keep");
        t.man(MAN, 8, 9, 1);
        t.due(2, "keep");
        t.man(MAN, 8, 9, 1);
        t.due(2, "back");
        t.due(2, "back");
        t.due(Due.BAD, "told", 2, 0);
    }

    /** The same: SHEETS, SLOTS, numbers that wait and THE TAPE stay as they are now. */
    private static void whatNoImageKeeps() {
        Trial t = new Trial(41).row(0, 0, 1).row(1, 1, 2).row(2, 0, 3);
        t.call("lay", 0, 3, 4);
        t.call("lay", 1, 3, 5);
        t.call("tell", 0);
        t.put("fee 7");
        t.due(0, "keep");
        t.row(0, 0, 11, 12);
        t.call("sheet", 1, -1, 0);
        t.call("lay", 0, 3, 14);
        t.call("lay", 1, 0, 0);
        t.call("tell", 0);
        t.put("fee 77");
        t.due(0, "back");
        t.call("lay", 4, 2, 0);
        t.due(11, "item", 4, 0);
        t.due(12, "item", 4, 1);
        t.due(Due.NOTHING, "mark", 1, 0, 1);
        t.due(4, "rest", 0, 10);
        t.due(Due.NOTHING, "rest", 1, 10);
        t.due(2, "count", 4);
        t.due(0, "check", 1);
        t.due(0, "text");
        t.due(77, "fee");
    }

    /** "0 how many MEN, 1 THE GO, 2 how many STAND, 3 TEXTS, 4 numbers that wait, 5 bytes of THE TAPE, 6 z": each at its most. */
    private static void countAtTheBounds() {
        Trial t = new Trial(42).nine(JIM, 0, 0, 0);
        for (int i = 0; i < 100; i++) {
            t.call("goes", 100);
        }
        for (int i = 0; i < 14; i++) {
            t.text("fee 1");
        }
        for (int i = 0; i < 60; i++) {
            t.call("tell", 0);
        }
        t.put(" ".repeat(96));
        t.call("seed", MIN);
        int[] due = {9, 9999, 9, 14, 60, 96, MIN};
        for (int what = 0; what < 7; what++) {
            t.onlyAsks(due[what], "count", what);
        }
        t.call("set", 8, 5, 1);
        t.onlyAsks(8, "count", 2);
        t.refused(Due.BAD, "count", 7);
        t.refused(Due.BAD, "count", -1);
    }

    /** "An object is used for at most 512 calls after it has been made": the last of them answers as the first. */
    private static void upToThe512thCall() {
        Trial t = new Trial(1).nine(MAN, 40, 50, 3);
        t.due(9, "keep");
        // Ten calls are made; a round has four, and makes a TEXT that back lets go.
        for (int round = 0; round < 125; round++) {
            t.due(12, "feed", 0x66656520, 0x662b3120, 0x20202020);
            t.due(0, "text");
            t.due(1, "clear", 41);
            t.due(9, "back");
        }
        t.due(9, "says", 0, 0, 41, 0);
        t.due(0, "alley", 3);
    }
}
