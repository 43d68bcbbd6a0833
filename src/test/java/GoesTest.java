/** Promises 12 and 13. */
public final class GoesTest {
    public static void main(String[] args) {
        goesWithoutMen();
        oneGoByHand();
        settingUp();
        nerves();
        nervesFall();
        mostGoes();
        refused();
        alley();
        Due.end();
    }

    private static void goesWithoutMen() {
        SkittleMen x = new SkittleMen();
        Due.due(12, "goes(3) without men", 0, x.goes(3));
        Due.due(12, "set by each", 3, x.alley(1));
        Due.due(12, "goes is 1 behind each", 1, x.alley(2));
        Due.due(12, "the go", 3, x.count(1));
        int z = 1;
        for (int i = 0; i < 12; i++) {
            z = z * 1103515245 + 12345;
        }
        Due.due(12, "four draws each", z, x.count(6));
    }

    /** What the next go will say, by draws of its own. */
    private static int[] saidNext(int z, int men) {
        int[] said = new int[4];
        int[] by = {8, 100, 3, men};
        for (int i = 0; i < 4; i++) {
            z = z * 1103515245 + 12345;
            said[i] = (z >>> 8) % by[i];
        }
        said[2]--;
        return said;
    }

    private static void oneGoByHand() {
        for (int seed = 0; seed < 60; seed++) {
            SkittleMen x = new SkittleMen();
            SkittleMen y = new SkittleMen();
            for (int i = 0; i < 7; i++) {
                x.man(i % 5, 10 * i, 90 - 10 * i, i);
                y.man(i % 5, 10 * i, 90 - 10 * i, i);
            }
            for (int man = 0; man < 7; man++) {
                if ((seed >> man & 1) != 0 && seed != 0) {
                    x.set(man, 5, 1);
                    y.set(man, 5, 1);
                }
            }
            x.seed(seed * 7919);
            int[] said = saidNext(seed * 7919, 7);
            int to = said[3];
            while (y.told(to, 5) == 1) {
                to = (to + 1) % 7;
            }
            int due = y.says(to, said[0], said[1], said[2]);
            Due.due(12, "goes(1) by seed " + seed, due, x.goes(1));
            Due.due(12, "who stands by seed " + seed, y.alley(3), x.alley(3));
            Due.due(12, "set by seed " + seed, 0, x.alley(1));
            Due.due(12, "goes by seed " + seed, 1, x.alley(2));
        }
    }

    private static void settingUp() {
        SkittleMen x = new SkittleMen();
        x.man(5, 50, 0, 0);
        for (int go = 1; go <= 7; go++) {
            x.goes(1);
            Due.due(12, "set behind go " + go, (go - 1) / 3, x.alley(1));
            Due.due(12, "goes behind go " + go, (go - 1) % 3 + 1, x.alley(2));
        }
        x.set(0, 5, 1);
        x.goes(1);
        Due.due(12, "set when none stands", 3, x.alley(1));
        Due.due(12, "goes when none stands", 1, x.alley(2));
        Due.due(12, "stands then", 1, x.count(2));
    }

    private static void nerves() {
        SkittleMen x = new SkittleMen();
        x.man(5, 98, 0, 0);
        x.man(5, 1, 0, 0);
        x.man(5, 99, 0, 0);
        x.set(1, 5, 1);
        int[][] due = {{99, 0, 99}, {99, 0, 99}, {99, 0, 99}, {99, 1, 99}};
        for (int go = 0; go < 4; go++) {
            x.goes(1);
            for (int man = 0; man < 3; man++) {
                Due.due(12, "nerve of " + man + " behind go " + go, due[go][man], x.told(man, 1));
            }
        }
    }

    private static void nervesFall() {
        SkittleMen x = new SkittleMen();
        x.man(5, 50, 0, 0);
        x.man(5, 50, 0, 0);
        x.set(1, 5, 1);
        x.goes(1);
        Due.due(12, "nerve of one that stands", 51, x.told(0, 1));
        Due.due(12, "nerve of one that is down", 49, x.told(1, 1));
    }

    private static void mostGoes() {
        SkittleMen x = new SkittleMen();
        x.deal(9);
        for (int i = 0; i < 99; i++) {
            x.goes(100);
        }
        Due.due(12, "the go", 9900, x.count(1));
        int fell = x.behind(99, 0) - x.alley(0);
        int fellBeyond = x.behind(100, 1);
        Due.due(12, "goes up to 9999", fell, x.goes(100));
        Due.due(12, "the go at most", 9999, x.count(1));
        Due.due(18, "behind goes beyond 9999", fellBeyond, x.behind(1, 1));
        int z = x.count(6);
        Due.due(12, "none beyond", 0, x.goes(1));
        Due.due(12, "no draws beyond", z, x.count(6));
        Due.due(12, "the go stays", 9999, x.count(1));
        x.keep();
        Due.due(39, "no goes told beyond 9999", 0, x.check(30));
        x.tell(1);
        Due.due(39, "one too many beyond 9999", 1, x.check(30));
    }

    private static void refused() {
        SkittleMen x = new SkittleMen();
        x.deal(9);
        int state = Due.stateOf(x);
        Due.due(12, "goes(0)", Due.BAD, x.goes(0));
        Due.due(12, "goes(-1)", Due.BAD, x.goes(-1));
        Due.due(12, "goes(101)", Due.BAD, x.goes(101));
        Due.due(12, "nothing changed", state, Due.stateOf(x));
        x.goes(100);
        Due.due(12, "goes(100)", 100, x.count(1));
    }

    private static void alley() {
        SkittleMen x = new SkittleMen();
        Due.due(13, "alley(5) without men", Due.NONE, x.alley(5));
        x.man(0, 10, 0, 0);
        x.man(0, 20, 0, 0);
        x.man(0, 40, 0, 0);
        Due.due(13, "alley(4)", 70, x.alley(4));
        Due.due(13, "alley(5), none felled", 0, x.alley(5));
        x.set(1, 4, 2);
        x.set(2, 4, 2);
        Due.due(13, "alley(5), of several", 1, x.alley(5));
        x.set(2, 4, 3);
        Due.due(13, "alley(5)", 2, x.alley(5));
        x.set(1, 5, 1);
        Due.due(13, "alley(3)", 5, x.alley(3));
        x.says(0, 0, 99, -1);
        Due.due(13, "alley(0)", 1, x.alley(0));
        x.sets();
        Due.due(13, "alley(1)", 1, x.alley(1));
        x.goes(2);
        Due.due(13, "alley(2)", 2, x.alley(2));
        Due.due(13, "alley(-1)", Due.BAD, x.alley(-1));
        Due.due(13, "alley(6)", Due.BAD, x.alley(6));
    }
}
