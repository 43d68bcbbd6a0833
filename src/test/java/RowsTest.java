/** Promises 38 to 42. */
public final class RowsTest {
    public static void main(String[] args) {
        tell();
        check();
        checkWrongAtEach();
        checkRefused();
        checkByTheImage();
        images();
        count();
        Due.end();
    }

    private static void tell() {
        SkittleMen x = new SkittleMen();
        for (int i = 1; i <= 60; i++) {
            Due.due(38, "tell", i, x.tell(-i));
        }
        Due.due(38, "tell above 60", Due.FULL, x.tell(1));
        Due.due(38, "60 wait", 60, x.count(4));
    }

    private static SkittleMen kept() {
        SkittleMen x = new SkittleMen();
        x.seed(31);
        x.deal(9);
        x.goes(4);
        x.keep();
        return x;
    }

    /** The goes told of n, by really going them from the image on. */
    private static int[] goesTold(SkittleMen x, int n) {
        int[] told = new int[2 * n];
        x.back();
        for (int i = 0; i < n; i++) {
            x.goes(1);
            told[2 * i] = x.alley(0);
            told[2 * i + 1] = x.alley(4);
        }
        x.back();
        return told;
    }

    private static void tellAll(SkittleMen x, int[] told, int many) {
        for (int i = 0; i < many; i++) {
            x.tell(told[i]);
        }
    }

    private static void check() {
        int[] ns = {1, 2, 30};
        for (int n : ns) {
            SkittleMen x = kept();
            int[] told = goesTold(x, n);
            tellAll(x, told, 2 * n);
            Due.due(39, "check(" + n + ")", 0, x.check(n));
            Due.due(39, "none wait", 0, x.count(4));
            tellAll(x, told, 2 * n - 1);
            Due.due(39, "one is missing", 2 * n, x.check(n));
            tellAll(x, told, 2 * n - 2);
            Due.due(39, "two are missing", 2 * n - 1, x.check(n));
            if (n < 30) {
                tellAll(x, told, 2 * n);
                x.tell(0);
                Due.due(39, "one too many", 2 * n + 1, x.check(n));
                tellAll(x, told, 2 * n);
                x.tell(0);
                x.tell(0);
                Due.due(39, "two too many", 2 * n + 1, x.check(n));
            }
            Due.due(39, "none wait", 1, x.check(1));
        }
    }

    private static void checkWrongAtEach() {
        SkittleMen x = kept();
        int[] told = goesTold(x, 3);
        for (int wrong = 0; wrong < 6; wrong++) {
            for (int i = 0; i < 6; i++) {
                x.tell(i == wrong ? told[i] + 1 : told[i]);
            }
            Due.due(39, "wrong at " + wrong, 1 + wrong, x.check(3));
        }
    }

    private static void checkRefused() {
        SkittleMen x = new SkittleMen();
        int[] bad = {0, -1, 31, Integer.MAX_VALUE};
        for (int n : bad) {
            x.tell(1);
            Due.due(39, "check(" + n + ")", Due.BAD, x.check(n));
            Due.due(39, "none wait behind check(" + n + ")", 0, x.count(4));
        }
        x.tell(1);
        Due.due(39, "no image", Due.NO, x.check(1));
        Due.due(39, "none wait, no image", 0, x.count(4));
    }

    private static void checkByTheImage() {
        SkittleMen x = kept();
        int[] told = goesTold(x, 5);
        x.goes(7);
        x.set(0, 1, 0);
        Due.text(x, "bears 0");
        int z = x.count(6);
        tellAll(x, told, 10);
        Due.due(39, "by the image", 0, x.check(5));
        Due.due(39, "z stays", z, x.count(6));
        Due.due(39, "the text stays", 0, x.why(0));
        checkNearTheLastGo();
    }

    private static void checkNearTheLastGo() {
        SkittleMen x = new SkittleMen();
        x.deal(5);
        for (int i = 0; i < 99; i++) {
            x.goes(100);
        }
        x.goes(97);
        x.keep();
        int[] told = goesTold(x, 2);
        tellAll(x, told, 4);
        Due.due(39, "fewer goes up to 9999", 0, x.check(30));
        tellAll(x, told, 4);
        Due.due(39, "fewer goes up to 9999", 0, x.check(2));
        tellAll(x, told, 4);
        x.tell(0);
        Due.due(39, "one too many up to 9999", 5, x.check(3));
    }

    private static void images() {
        SkittleMen x = new SkittleMen();
        Due.due(41, "no image", Due.NO, x.back());
        Due.due(40, "keep without men", 0, x.keep());
        x.seed(6);
        x.deal(7);
        x.goes(5);
        Due.text(x, "fee 1");
        Due.text(x, "bears n+1");
        Due.due(41, "back to no men", 0, x.back());
        Due.due(41, "no men", 0, x.count(0));
        Due.due(41, "no texts", 0, x.count(3));
        Due.due(41, "none counts", Due.NONE, x.why(1));
        Due.due(41, "fee", 0, x.fee());
        Due.due(41, "z", 1, x.count(6));
        Due.due(41, "fell", 0, x.alley(0));
        x.deal(6);
        x.goes(11);
        Due.text(x, "bears n/2");
        Due.due(40, "keep", 6, x.keep());
        int state = Due.stateOf(x);
        for (int i = 0; i < 2; i++) {
            x.goes(10);
            x.set(1, 5, 1);
            x.turns(2, 5);
            x.deal(2);
            Due.text(x, "bears 99");
            Due.text(x, "fine 99");
            x.sets();
            Due.due(41, "back", 6, x.back());
            Due.due(41, "all is as the image", state, Due.stateOf(x));
        }
        Due.due(26, "texts go on from the image", 1, Due.text(x, "fine 5"));
        whatStays();
    }

    /** Sheets, slots, numbers that wait and the tape are none of the image's. */
    private static void whatStays() {
        SkittleMen x = new SkittleMen();
        x.man(0, 1, 2, 3);
        x.keep();
        x.sheet(0, 0, 3);
        x.lay(0, 3, 17);
        x.tell(4);
        x.feed(1, 2, 3);
        x.man(0, 0, 0, 0);
        x.says(1, 0, 99, 0);
        Due.due(41, "back", 1, x.back());
        Due.due(41, "sheets stay", 1, x.mark(0, 2, 1));
        Due.due(41, "slots stay", 2, x.rest(0, 5));
        Due.due(41, "numbers stay", 1, x.count(4));
        Due.due(41, "the tape stays", 12, x.count(5));
        Due.due(2, "a man at a place that was one's before", 1, x.man(0, 0, 0, 0));
        Due.due(2, "it stands", 0, x.told(1, 5));
        Due.due(2, "it was never felled", 0, x.told(1, 4));
    }

    private static void count() {
        SkittleMen x = new SkittleMen();
        x.man(5, 0, 0, 0);
        x.man(5, 0, 0, 0);
        x.man(5, 0, 0, 0);
        x.goes(1);
        x.set(1, 5, 1);
        Due.text(x, "fee 1");
        x.tell(0);
        x.tell(0);
        x.feed(0, 0, 0);
        x.seed(77);
        int[] due = {3, 1, 2, 1, 2, 12, 77};
        for (int what = 0; what < 7; what++) {
            Due.due(42, "count(" + what + ")", due[what], x.count(what));
        }
        Due.due(42, "count(7)", Due.BAD, x.count(7));
        Due.due(42, "count(-1)", Due.BAD, x.count(-1));
    }
}
