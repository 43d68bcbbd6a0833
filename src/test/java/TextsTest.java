/** Promises 24 to 28, and what texts give. */
public final class TextsTest {
    public static void main(String[] args) {
        feed();
        trim();
        texts();
        faults();
        faultsOfDepth();
        textsBehindFaults();
        mostTexts();
        values();
        names();
        bearsByText();
        textTold();
        why();
        Due.end();
    }

    private static void feed() {
        SkittleMen x = new SkittleMen();
        for (int i = 1; i <= 8; i++) {
            Due.due(24, "feed", 12 * i, x.feed(0x20202020, 0x20202020, 0x20202020));
        }
        Due.due(24, "feed above 96", Due.FULL, x.feed(0, 0, 0));
        Due.due(24, "96 bytes stay", 96, x.count(5));
        x.trim(85);
        Due.due(24, "feed above 96 by one", Due.FULL, x.feed(0, 0, 0));
        x.trim(84);
        Due.due(24, "feed up to 96", 96, x.feed(0, 0, 0));
        x.trim(0);
        // "fee 1+2*3-45": the highest byte of each number comes first.
        Due.due(24, "feed a text", 12, x.feed(0x66656520, 0x312b322a, 0x332d3435));
        Due.due(26, "text", 0, x.text());
        Due.due(24, "the order of bytes", -38, x.fee());
    }

    private static void trim() {
        SkittleMen x = new SkittleMen();
        Due.due(25, "trim(0), empty", 0, x.trim(0));
        Due.due(25, "trim(1), empty", Due.BAD, x.trim(1));
        x.feed(0x66656520, 0x312b322a, 0x332d3435);
        Due.due(25, "trim(13)", Due.BAD, x.trim(13));
        Due.due(25, "trim(-1)", Due.BAD, x.trim(-1));
        Due.due(25, "twelve stay", 12, x.count(5));
        Due.due(25, "trim(12)", 12, x.trim(12));
        Due.due(25, "trim(5)", 5, x.trim(5));
        Due.due(25, "five stay", 5, x.count(5));
        Due.due(26, "text of the first five", 0, x.text());
        Due.due(25, "the first five count", 1, x.fee());
    }

    private static void texts() {
        SkittleMen x = new SkittleMen();
        Due.due(26, "text", 0, Due.text(x, "bears n"));
        Due.due(26, "the tape is used up", 0, x.count(5));
        Due.due(26, "blanks at the ends", 1, Due.text(x, "   fee f   "));
        Due.due(26, "no blanks", 2, Due.text(x, "fee(f)"));
        Due.due(26, "blanks between all", 3, Due.text(x, "fee ( ! f + 0012 ) / ! ( 3 )"));
        Due.due(26, "four digits", 4, Due.text(x, "fine 9999"));
        Due.due(26, "a ! right behind the key", 5, Due.text(x, "fine!n"));
        Due.due(26, "texts", 6, x.count(3));
    }

    private static void dueFault(int place, String text) {
        SkittleMen x = new SkittleMen();
        Due.due(26, "fault of '" + text + "'", -100 - place, Due.text(x, text));
        Due.due(26, "the tape is used up by a fault of '" + text + "'", 0, x.count(5));
        Due.due(26, "no text by a fault of '" + text + "'", 0, x.count(3));
        Due.due(26, "none counts by a fault of '" + text + "'", Due.NONE, x.why(0));
    }

    private static void faults() {
        dueFault(0, "");
        dueFault(4, "    ");
        dueFault(3, "fee");
        dueFault(6, "fee   ");
        dueFault(2, "  fees f");
        dueFault(0, "Fee f");
        dueFault(0, "gee f");
        dueFault(0, "fine" + "n");
        dueFault(0, "12");
        dueFault(0, "(fee f)");
        dueFault(3, "fee1");
        dueFault(4, "fee 12345");
        dueFault(4, "fee 00001");
        dueFault(4, "fee n");
        dueFault(4, "fee w");
        dueFault(5, "fine f");
        dueFault(5, "fine s");
        dueFault(6, "bears x");
        dueFault(6, "bears nn");
        dueFault(4, "fee ff");
        dueFault(5, "fee f1");
        dueFault(6, "fee f f");
        dueFault(6, "fee f 1");
        dueFault(5, "fee 1f");
        dueFault(6, "fee f (f)");
        dueFault(6, "fee f !f");
        dueFault(6, "fee f+");
        dueFault(8, "fee f+  ");
        dueFault(6, "fee f++f");
        dueFault(4, "fee -f");
        dueFault(4, "fee )");
        dueFault(5, "fee f)");
        dueFault(5, "fee ()");
        dueFault(6, "fee (f");
        dueFault(7, "fee (f+)");
        dueFault(7, "fee (f))");
        dueFault(7, "fee f<f<f");
        dueFault(10, "fee f = f > f");
        dueFault(9, "fee f<1+f=f");
        dueFault(12, "fee (f<1)<f =f");
        dueFault(9, "fee (f<1 <f)");
        dueFault(6, "fee f&&f");
        dueFault(6, "fee f|*f");
        dueFault(5, "fee f\tf");
        dueFault(3, "fee\nf");
        dueFault(5, "fee f" + (char) 200);
        dueFault(5, "fee f" + (char) 0);
        dueFault(4, "fee F");
        dueFault(4, "fee fee");
        dueFault(5, "fee !");
        dueFault(96, "fee " + "1+".repeat(46));
        dueFault(4, "fee " + "1".repeat(92));
    }

    private static void faultsOfDepth() {
        SkittleMen x = new SkittleMen();
        Due.due(26, "eight (", 0, Due.text(x, "fee " + "(".repeat(8) + "1" + ")".repeat(8)));
        Due.due(26, "eight ( twice", 1, Due.text(x, "fee " + "(".repeat(8) + "1" + ")".repeat(8) + "+" + "(".repeat(8) + "1" + ")".repeat(8)));
        Due.due(26, "eight !", 2, Due.text(x, "fee " + "!".repeat(8) + "1"));
        Due.due(26, "eight ! twice", 3, Due.text(x, "fee " + "!".repeat(8) + "1" + "-" + "!".repeat(8) + "1"));
        Due.due(26, "eight of both", 4, Due.text(x, "fee " + "!(".repeat(8) + "1" + ")".repeat(8)));
        Due.due(26, "! ended by )", 5, Due.text(x, "fee !!!!(!!!!1+!!!!1)+!!!!!!!!1"));
        dueFault(12, "fee ((((((((( 1");
        dueFault(12, "fee !!!!!!!!!1");
        dueFault(13, "fee !!!!(!!!!!1)");
        dueFault(20, "fee " + "!(".repeat(9) + "1" + ")".repeat(9));
        dueFault(14, "fee 1+(((((((((1");
        dueFault(16, "fee ((((((((1)+(((1))+1");
    }

    /** What was open in a text with a fault is nothing to the next one. */
    private static void textsBehindFaults() {
        SkittleMen x = new SkittleMen();
        String[] faulty = {"fee ((((((((f+*", "fee !!!!!!!!(", "bears n+n*", "fee f&f|f<f+f*(", "fee 1<"};
        for (int i = 0; i < faulty.length; i++) {
            Due.due(26, "fault", -100 - faulty[i].length() + (i == 0 ? 1 : 0), Due.text(x, faulty[i]));
            Due.due(26, "text behind " + faulty[i], 2 * i, Due.text(x, "fee ((((((((8-3))))))))"));
            Due.due(22, "fee behind " + faulty[i], 5, x.fee());
            Due.due(26, "fault", -108, Due.text(x, "fee 4<3+)"));
            Due.due(26, "text behind )", 2 * i + 1, Due.text(x, "fee !!!!!!!!7+1<3"));
            Due.due(22, "fee behind )", 1, x.fee());
        }
    }

    private static void mostTexts() {
        SkittleMen x = new SkittleMen();
        for (int i = 0; i < 14; i++) {
            Due.due(26, "text", i, Due.text(x, i == 13 ? "fine 13" : "fee 13"));
        }
        Due.due(26, "the fifteenth", Due.FULL, Due.text(x, "bears 5"));
        Due.due(26, "the tape is used up", 0, x.count(5));
        Due.due(26, "none counts", Due.NONE, x.why(0));
        Due.due(26, "a fault stands first", -106, Due.text(x, "bears )"));
        Due.due(26, "fourteen", 14, x.count(3));
    }

    private static void dueValue(int want, String e) {
        SkittleMen x = new SkittleMen();
        Due.text(x, "fee " + e);
        Due.due(22, "fee " + e, want, x.fee());
    }

    private static void values() {
        dueValue(7, "7");
        dueValue(9999, "9999");
        dueValue(7, "0007");
        dueValue(14, "2+3*4");
        dueValue(20, "(2+3)*4");
        dueValue(-5, "2-3-4");
        dueValue(2, "24/3/4");
        dueValue(24, "24/4*4");
        dueValue(-3, "(0-7)/2");
        dueValue(0, "7/0");
        dueValue(0, "0/0");
        dueValue(9999 * 9999 * 9999, "9999*9999*9999");
        dueValue(Integer.MIN_VALUE, "(0-2*1024*1024*1024)/(0-1)");
        dueValue(1, "2<3");
        dueValue(0, "3<3");
        dueValue(1, "3=3");
        dueValue(0, "3=4");
        dueValue(1, "4>3");
        dueValue(0, "3>3");
        dueValue(1, "1+1<3");
        dueValue(1, "3>1+1");
        dueValue(1, "2&3");
        dueValue(0, "2&0");
        dueValue(1, "0-1&5");
        dueValue(1, "2|0");
        dueValue(0, "0|0");
        dueValue(1, "7|8");
        dueValue(1, "1|1&0");
        dueValue(0, "(1|1)&0");
        dueValue(1, "1<2&2<3");
        dueValue(1, "5&6&7");
        dueValue(0, "!5");
        dueValue(1, "!0");
        dueValue(1, "!!7");
        dueValue(1, "!0*!0");
        dueValue(3, "!0+2");
        dueValue(2, "!(1>2)*2");
        dueValue(1, "!3+!0");
        dueValue(1, "0=0&1=1");
        dueValue(5, "((((((((5))))))))");
    }

    private static void names() {
        SkittleMen x = new SkittleMen();
        x.man(0, 12, 34, 7);
        x.man(0, 0, 0, 7);
        x.set(0, 4, 5);
        x.says(1, 0, 99, 0);
        x.sets();
        x.sets();
        x.sets();
        x.set(1, 5, 1);
        String[] bears = {"n", "w", "f", "s"};
        int[] due = {12, 34, 5, 1};
        for (int i = 0; i < 4; i++) {
            Due.text(x, "bears " + bears[i]);
            Due.due(4, "bears " + bears[i], due[i], x.bears(0, 0));
        }
        Due.text(x, "fee f*100+s");
        Due.due(22, "names of fee", 103, x.fee());
        Due.text(x, "fine n*100+w");
        Due.due(23, "names of fine", 1234, x.fine(0));
    }

    private static void bearsByText() {
        SkittleMen x = new SkittleMen();
        for (int kind = 0; kind < 6; kind++) {
            x.man(kind, 50, 40, 3);
        }
        Due.text(x, "bears 60 - n / 10");
        int[] due = {55, 59, 55, 84, 45, 99};
        int[] dueSore = {35, 39, 35, 64, 25, 99};
        for (int kind = 0; kind < 6; kind++) {
            Due.due(4, "bears by a text, kind " + kind, due[kind], x.bears(kind, 1));
            Due.due(4, "bears of the sore by a text, kind " + kind, dueSore[kind], x.bears(kind, 3));
        }
        Due.text(x, "bears n * 100");
        Due.due(4, "held to 99", 99, x.bears(0, 1));
        Due.due(4, "held to 99, then less", 79, x.bears(0, 3));
        Due.due(17, "force by a text", 80, x.force(0, 3));
        Due.text(x, "bears 0 - n");
        Due.due(4, "held to 0", 0, x.bears(0, 1));
        Due.due(4, "held to 0, and a tenth of weight", 4, x.bears(1, 3));
        Due.due(4, "0 at least", 0, x.bears(4, 3));
        Due.due(8, "says by a text: all but JIM", 5, x.says(0, 1, 1, 0));
        Due.due(8, "says by a text to JIM", 0, x.says(5, 1, 99, 0));
        Due.due(3, "nerve stays", 50, x.told(0, 1));
    }

    private static void textTold() {
        SkittleMen x = new SkittleMen();
        Due.due(27, "textTold, none", Due.BAD, x.textTold(0, 0));
        Due.text(x, "fine 1");
        Due.text(x, "bears n*n+(12-!s)");
        Due.text(x, "fee f");
        int[][] due = {{2, 1}, {0, 4}, {1, 1}};
        for (int i = 0; i < 3; i++) {
            Due.due(27, "key of " + i, due[i][0], x.textTold(i, 0));
            Due.due(27, "pieces of " + i, due[i][1], x.textTold(i, 1));
        }
        Due.due(27, "textTold(3, 0)", Due.BAD, x.textTold(3, 0));
        Due.due(27, "textTold(-1, 0)", Due.BAD, x.textTold(-1, 0));
        Due.due(27, "textTold(0, 2)", Due.BAD, x.textTold(0, 2));
        Due.due(27, "textTold(0, -1)", Due.BAD, x.textTold(0, -1));
        Due.text(x, "fee " + "1+".repeat(45) + "1");
        Due.due(27, "most pieces", 46, x.textTold(3, 1));
        Due.due(22, "fee of most pieces", 46, x.fee());
    }

    private static void why() {
        SkittleMen x = new SkittleMen();
        Due.due(28, "why(0), none", Due.NONE, x.why(0));
        Due.due(28, "why(1), none", Due.NONE, x.why(1));
        Due.due(28, "why(2), none", Due.NONE, x.why(2));
        Due.due(28, "why(3)", Due.BAD, x.why(3));
        Due.due(28, "why(-1)", Due.BAD, x.why(-1));
        Due.text(x, "fine 1");
        Due.text(x, "bears 1");
        Due.text(x, "fine 2");
        Due.text(x, "fee )");
        Due.due(28, "why(0)", 1, x.why(0));
        Due.due(28, "why(1)", Due.NONE, x.why(1));
        Due.due(28, "why(2)", 2, x.why(2));
    }
}
