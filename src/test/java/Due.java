import java.nio.charset.StandardCharsets;

/** What the tests share: an answer beside the one that is due, and texts fed as numbers. */
final class Due {
    static final int BAD = -1000000001, NO = -1000000002, FULL = -1000000003, NONE = -1000000005;
    static final int NOTHING = -1000000011, KIND = -1000000012, INDEX = -1000000013, SIZE = -1000000014;

    private static int wrong = 0;

    private Due() {
    }

    static void due(int promise, String call, int want, int got) {
        if (got != want) {
            wrong(promise, call + " answered " + got + ", due is " + want);
        }
    }

    static void wrong(int promise, String what) {
        outside("promise " + promise + ": " + what);
    }

    /** Something is wrong that belongs to no promise. */
    static void outside(String what) {
        wrong++;
        System.out.println(what);
    }

    static void end() {
        System.out.println(wrong == 0 ? "all answers are as due" : wrong + " answers are not as due");
        if (wrong != 0) {
            System.exit(1);
        }
    }

    /** Puts just these bytes on an empty tape; the last twelve are filled up with blanks and trimmed. */
    static void put(SkittleMen x, byte[] bytes) {
        int[] fours = new int[3];
        for (int from = 0; from < bytes.length; from += 12) {
            for (int i = 0; i < 12; i++) {
                int one = from + i < bytes.length ? bytes[from + i] & 255 : 32;
                fours[i / 4] = fours[i / 4] << 8 | one;
            }
            x.feed(fours[0], fours[1], fours[2]);
        }
        x.trim(bytes.length);
    }

    static int text(SkittleMen x, String text) {
        put(x, text.getBytes(StandardCharsets.ISO_8859_1));
        return x.text();
    }

    /** All that can be asked about without changing it, in one number. */
    static int stateOf(SkittleMen x) {
        int sum = 17;
        for (int man = 0; man < 9; man++) {
            for (int what = 0; what < 8; what++) {
                sum = sum * 31 + x.told(man, what);
            }
        }
        for (int what = 0; what < 7; what++) {
            sum = sum * 31 + x.count(what);
            sum = sum * 31 + x.alley(what);
        }
        for (int key = 0; key < 3; key++) {
            sum = sum * 31 + x.why(key);
        }
        for (int text = 0; text < 14; text++) {
            sum = (sum * 31 + x.textTold(text, 0)) * 31 + x.textTold(text, 1);
        }
        return sum;
    }
}
