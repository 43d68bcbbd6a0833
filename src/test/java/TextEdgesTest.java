/** The boundary cases that promises 24 to 28, and part 4 of the Terms, name; each method quotes its sentence. */
public final class TextEdgesTest {
    public static void main(String[] args) {
        tapeOf96();
        highestByteFirst();
        trimAtTheBounds();
        usedUpWhateverItAnswers();
        fourteenAtMost();
        keyAlone();
        keyIsOneWord();
        namesOfEachKey();
        numberOfOneToFourDigits();
        wordsAsLongAsTheyGo();
        blanks();
        wordBehindWordNeedsABlank();
        anyOtherByteIsASign();
        oneTestAlone();
        endTooSoon();
        pieceWanted();
        signWanted();
        eightOpen();
        ninthOpen();
        eightNots();
        ninthNot();
        notsAndOpenEachByItself();
        theFirstFaultCounts();
        aFaultIsOverWithItsText();
        wraps();
        divides();
        testsGiveOneOrZero();
        andOrNot();
        loosestFirst();
        leftToRight();
        longestTexts();
        toldLastCounts();
        piecesAreCounted();
        Due.end();
    }

    private static void dueFault(int place, String text) {
        Trial t = new Trial(26);
        t.put(text);
        t.due(text.length(), "count", 5);
        t.refusedWithTape(-100 - place, "text");
    }

    private static void dueText(String text) {
        Trial t = new Trial(26);
        t.put(text);
        t.due(0, "text");
        t.due(0, "count", 5);
        t.due(1, "count", 3);
    }

    private static void dueValue(int want, String e) {
        Trial t = new Trial(22);
        if (t.text("fee " + e) != 0) {
            Due.wrong(26, "'" + e + "' has a fault");
        }
        int got = t.call("fee");
        Due.due(22, "fee " + e, want, got);
    }

    /** "THE TAPE (96 bytes at most ..)"; "FULL: it would have more than 96." */
    private static void tapeOf96() {
        Trial t = new Trial(24);
        for (int i = 1; i <= 8; i++) {
            t.due(12 * i, "feed", -1, 0, Trial.MIN);
        }
        t.refused(Due.FULL, "feed", 0, 0, 0);
        for (int left = 95; left > 84; left--) {
            t.call("trim", left);
            t.refused(Due.FULL, "feed", 0, 0, 0);
        }
        t.call("trim", 84);
        t.due(96, "feed", 0, 0, 0);
        t.due(96, "count", 5);
    }

    /** "Twelve bytes come to THE TAPE, the highest of each number first". */
    private static void highestByteFirst() {
        Trial t = new Trial(24);
        // "fee 9*8-7+6/" and "5*4-3+2-1   "
        t.due(12, "feed", 0x66656520, 0x392a382d, 0x372b362f);
        t.due(24, "feed", 0x352a342d, 0x332b322d, 0x31202020);
        t.due(0, "text");
        t.due(9 * 8 - 7 + 6 / 5 * 4 - 3 + 2 - 1, "fee");
        // A byte above 127 is a byte of its own, and does not spill into those ahead of it.
        t.due(12, "feed", 0x66656520, 0x312b31ff, 0xffffffff);
        t.due(7, "trim", 7);
        t.due(1, "text");
        t.due(2, "fee");
    }

    /** "THE TAPE keeps its first n bytes: n." */
    private static void trimAtTheBounds() {
        for (int n = 0; n <= 12; n++) {
            Trial t = new Trial(25);
            t.put("fee 1+2+3+45");
            t.due(n, "trim", n);
            t.due(n, "count", 5);
            int[] due = {-100, -100, -100, -103, -104, 0, -106, 0, -108, 0, -110, 0, 0};
            // "f" and "fe" are words, but no KEYS.
            t.due(due[n], "text");
        }
        Trial t = new Trial(25);
        t.due(0, "trim", 0);
        t.refused(Due.BAD, "trim", 1);
        // Bytes that were cut off are gone.
        t.put("fee 1+2+3+45");
        t.call("trim", 4);
        t.due(16, "feed", 0x37202020, 0x20202020, 0x20202020);
        t.due(0, "text");
        t.due(7, "fee");
    }

    /** "an act that reads it uses it up, whatever it answers". */
    private static void usedUpWhateverItAnswers() {
        Trial t = new Trial(26);
        t.due(0, "count", 5);
        t.refusedWithTape(-100, "text");
        t.put("fee 1");
        t.due(0, "text");
        t.due(0, "count", 5);
        t.put("fee )");
        t.due(-104, "text");
        t.due(0, "count", 5);
        t.due(-100, "text");
    }

    /** "TEXTS, 14 at most, numbered from 0". */
    private static void fourteenAtMost() {
        Trial t = new Trial(26);
        for (int i = 0; i < 14; i++) {
            t.put("fee " + i);
            t.due(i, "text");
            t.due(i + 1, "count", 3);
            t.due(i, "fee");
        }
        t.put("fee 99");
        t.due(Due.FULL, "text");
        t.due(0, "count", 5);
        t.due(13, "fee");
        t.due(13, "why", 1);
        t.put("bears 0");
        t.due(Due.FULL, "text");
        t.due(Due.NONE, "why", 0);
        t.put("bears");
        t.due(-105, "text");
        t.due(14, "count", 3);
    }

    /** "KEY E": the end comes too soon behind a KEY. */
    private static void keyAlone() {
        dueFault(5, "bears");
        dueFault(3, "fee");
        dueFault(4, "fine");
        dueFault(6, "fee   ");
        dueFault(7, "   fine");
        dueText("bears 0");
        dueText("fee 0");
        dueText("fine 0");
    }

    /** "KEY: bears | fee | fine." */
    private static void keyIsOneWord() {
        dueFault(0, "bear 1");
        dueFault(0, "bearss 1");
        dueFault(0, "fe e 1");
        dueFault(0, "feefee 1");
        dueFault(0, "fines 1");
        dueFault(0, "fin 1");
        dueFault(0, "BEARS 1");
        dueFault(0, "gears 1");
        dueFault(0, "gee 1");
        dueFault(0, "fed 1");
        dueFault(0, "mine 1");
        dueFault(0, "find 1");
        dueFault(0, "n");
        dueFault(0, "1");
        dueFault(0, "(");
        dueFault(4, "fee fee 1");
        dueFault(4, "fee fine");
    }

    /** "NAMES, each one letter: of bears n, w, f, s; of fee f, s; of fine n, w". */
    private static void namesOfEachKey() {
        String[] keys = {"bears ", "fee ", "fine "};
        String[] names = {"nwfs", "fs", "nw"};
        for (int key = 0; key < 3; key++) {
            for (char name = 'a'; name <= 'z'; name++) {
                if (names[key].indexOf(name) >= 0) {
                    dueText(keys[key] + name);
                } else {
                    dueFault(keys[key].length(), keys[key] + name);
                }
            }
        }
        Trial t = new Trial(22).man(0, 12, 34, 7).man(0, 0, 0, 7);
        t.call("says", 1, 0, 99, 0);
        t.call("set", 0, 4, 56);
        t.text("bears n*0+w");
        t.due(34, "bears", 0, 0);
        t.text("bears f");
        t.due(56, "bears", 0, 0);
        t.text("bears s");
        t.due(1, "bears", 0, 0);
        t.text("bears n");
        t.due(12, "bears", 0, 0);
        t.call("sets");
        t.call("sets");
        t.text("fee f*10+s");
        t.due(12, "fee");
        t.text("fine n*100+w");
        t.due(1234, "fine", 0);
    }

    /** "NUMBER (1 to 4 digits)"; FAULT: "a NUMBER of more than 4 digits". */
    private static void numberOfOneToFourDigits() {
        dueValue(0, "0");
        dueValue(9, "9");
        dueValue(9999, "9999");
        dueValue(0, "0000");
        dueValue(1, "0001");
        dueFault(4, "fee 10000");
        dueFault(4, "fee 00000");
        dueFault(6, "fee 1+99999");
        dueFault(4, "fee 12345+)");
        dueFault(5, "fee (123456)");
    }

    /** "A word is a row of letters a .. z, or of digits, as long as it goes". */
    private static void wordsAsLongAsTheyGo() {
        dueFault(4, "fee ff");
        dueFault(4, "fee fs");
        dueFault(6, "fee f+ss");
        dueFault(6, "bears nw");
        // The letters next to a .. z, and the digits' neighbours, are signs.
        dueFault(5, "fee f`");
        dueFault(5, "fee f{");
        dueFault(5, "fee 1:");
        dueFault(0, "`ee 1");
        dueFault(0, "{ee 1");
        dueFault(3, "fee{1");
        dueFault(3, "fee:1");
        dueFault(3, "fee/1");
    }

    /** "Between words and signs, and at the ends, there may be blanks (byte 32)". */
    private static void blanks() {
        dueText("   fee   (   !   f   +   12   )   *   s   ");
        dueText("fee!f+12*(s)");
        dueText("fee(f)");
        dueText("fee " + " ".repeat(91) + "1");
        dueText("fee 1" + " ".repeat(91));
        dueFault(96, " ".repeat(96));
        dueFault(12, " ".repeat(12));
        dueFault(1, " ");
        dueFault(96, " ".repeat(93) + "fee");
        // Digits apart are two NUMBERS, the second of which does not go on.
        dueFault(6, "fee 1 2");
        // No other byte is a blank.
        dueFault(3, "fee\t1");
        dueFault(3, "fee\n1");
        dueFault(3, "fee" + (char) 160 + "1");
        dueFault(5, "fee 1" + (char) 0);
        dueFault(0, (char) 0 + "fee 1");
    }

    /** FAULT: "a word that needs a blank ahead of it". */
    private static void wordBehindWordNeedsABlank() {
        dueFault(3, "fee1");
        dueFault(5, "bears12");
        dueFault(4, "fine0");
        dueText("fee 1");
        dueFault(5, "fee 1f");
        dueFault(5, "fee f1");
        dueText("fee(1)");
    }

    /** "any other byte is a sign by itself": none of them but those of E goes on. */
    private static void anyOtherByteIsASign() {
        String pieceSigns = "(!";
        String joining = "|&<=>+-*/";
        for (int one = 0; one < 256; one++) {
            boolean word = one >= 'a' && one <= 'z' || one >= '0' && one <= '9' || one == ' ';
            if (!word && pieceSigns.indexOf(one) < 0) {
                dueFault(4, "fee " + (char) one + "1");
            }
            if (!word && joining.indexOf(one) < 0) {
                dueFault(5, "fee 1" + (char) one + "1");
            }
        }
        for (int i = 0; i < joining.length(); i++) {
            dueText("fee 1" + joining.charAt(i) + "1");
        }
        // Two signs are no one sign.
        dueFault(6, "fee 1<=1");
        dueFault(6, "fee 1==1");
        dueFault(6, "fee 1&&1");
        dueFault(6, "fee 1||1");
        dueFault(6, "fee 1**1");
        dueFault(6, "fee 1+-1");
        dueFault(7, "fee 1&!=1");
        dueFault(5, "fee 1!=1");
    }

    /** "TEST: SUM [ (< | = | >) SUM ]": once, but again within ( ) and on the other side of & and |. */
    private static void oneTestAlone() {
        String tests = "<=>";
        for (int i = 0; i < 3; i++) {
            for (int k = 0; k < 3; k++) {
                char a = tests.charAt(i);
                char b = tests.charAt(k);
                dueFault(7, "fee 1" + a + "1" + b + "1");
                dueFault(13, "fee 1" + a + "1+2*3-1" + b + "1");
                dueText("fee (1" + a + "1)" + b + "1");
                dueText("fee 1" + a + "(1" + b + "1)");
                dueText("fee 1" + a + "1&1" + b + "1");
                dueText("fee 1" + a + "1|1" + b + "1");
                dueFault(11, "fee (1" + a + "1)" + b + "1" + a + "1");
                dueFault(8, "fee (1" + a + "1" + b + "1)");
                dueFault(11, "fee 1" + a + "1&1" + b + "1" + a + "1");
            }
        }
        dueFault(9, "fee 1<!1 =1");
        dueText("fee !(1<1)=1");
    }

    /** "the end (the place behind the last byte), if it comes too soon." */
    private static void endTooSoon() {
        String joining = "|&<=>+-*/";
        for (int i = 0; i < joining.length(); i++) {
            dueFault(6, "fee 1" + joining.charAt(i));
            dueFault(9, "fee 1" + joining.charAt(i) + "   ");
        }
        dueFault(5, "fee (");
        dueFault(6, "fee (1");
        dueFault(7, "fee (1 ");
        dueFault(8, "fee ((1)");
        dueFault(5, "fee !");
        dueFault(8, "fee !   ");
        dueFault(0, "");
        dueFault(96, "fee " + "1+".repeat(46));
        dueFault(96, "fee " + "1+".repeat(45) + "(1");
    }

    /** "the first byte of the first word or sign with which no TEXT goes on", where a PIECE must come. */
    private static void pieceWanted() {
        String ahead = "|&<=>+-*/()";
        for (int i = 0; i < ahead.length(); i++) {
            char sign = ahead.charAt(i);
            if (sign != '(') {
                dueFault(4, "fee " + sign + "1");
                dueFault(6, "fee 1+" + sign + "1");
                dueFault(5, "fee !" + sign + "1");
                dueFault(5, "fee (" + sign + "1");
            }
        }
        dueFault(6, "fee   )");
    }

    /** The same, where a sign or the end must come. */
    private static void signWanted() {
        String[] not = {"(", "!", "1", "f"};
        for (String word : not) {
            dueFault(6, "fee 1 " + word);
            dueFault(8, "fee (1) " + word);
            dueFault(7, "fee !1 " + word);
        }
        dueFault(5, "fee 1)");
        dueFault(7, "fee (1))");
        dueFault(9, "fee (1)+1)");
        dueFault(11, "fee ((1)+1))");
    }

    private static String nested(int n) {
        return "(".repeat(n) + "1" + ")".repeat(n);
    }

    /** "the ninth ( that would be open within others": eight go on, and eight more once they are closed. */
    private static void eightOpen() {
        dueText("fee " + nested(8));
        dueText("fee " + nested(8) + "+" + nested(8) + "+" + nested(8));
        dueText("fee (" + nested(7) + "+" + nested(7) + ")*" + nested(8));
        dueText("fee (((((((1+(2))))))))");
        dueValue(1, nested(8));
    }

    /** The same: the ninth does not. */
    private static void ninthOpen() {
        dueFault(12, "fee " + nested(9));
        dueFault(12, "fee " + "(".repeat(9));
        dueFault(12, "fee " + "(".repeat(92));
        dueFault(16, "fee 1+2*" + nested(9));
        dueFault(14, "fee (" + "1+" + "(".repeat(8));
        dueFault(16, "fee ((((((((1)+((");
        dueFault(4 + 17 + 1 + 8, "fee " + nested(8) + "+" + nested(9));
        // It is the end that comes too soon, if eight are open there.
        dueFault(12, "fee " + "(".repeat(8));
    }

    /** "the ninth ! likewise": eight go on, and eight more behind their PIECE. */
    private static void eightNots() {
        dueText("fee " + "!".repeat(8) + "1");
        dueText("fee " + "!".repeat(8) + "1+" + "!".repeat(8) + "1");
        dueText("fee ! ! ! ! ! ! ! ! f");
        dueText("fee !!!!(!!!!1+!!!!1)*!!!!!!!!1");
        dueText("fee !!!!!!!!(1)+!!!!!!!!(1+1)");
        dueValue(1, "!!!!!!!!7");
        dueValue(0, "!!!!!!!7");
        dueValue(2, "!!!!!!!!7+!!!!!!!!(1)");
    }

    /** The same: the ninth does not. */
    private static void ninthNot() {
        dueFault(12, "fee " + "!".repeat(9) + "1");
        dueFault(12, "fee " + "!".repeat(92));
        dueFault(20, "fee " + "! ".repeat(9) + "1");
        dueFault(14, "fee 1+" + "!".repeat(9) + "1");
        dueFault(13, "fee !!!!(!!!!!1)");
        dueFault(13, "fee !!!!!!!!(!1)");
        dueFault(15, "fee !!!!!!!!(1+!1)");
        dueFault(12, "fee " + "!".repeat(8));
    }

    /** "each by itself": eight of each may be open at once. */
    private static void notsAndOpenEachByItself() {
        dueText("fee " + "!(".repeat(8) + "1" + ")".repeat(8));
        dueText("fee " + "(".repeat(8) + "!".repeat(8) + "1" + ")".repeat(8));
        dueText("fee " + "!".repeat(8) + "(".repeat(8) + "1" + ")".repeat(8));
        dueFault(20, "fee " + "!(".repeat(8) + "!");
        dueFault(20, "fee " + "!(".repeat(8) + "(");
    }

    /** "FAULT: the first byte of the first word or sign with which no TEXT goes on". */
    private static void theFirstFaultCounts() {
        dueFault(4, "fee ) 12345 ((");
        dueFault(0, "feef ) 12345");
        dueFault(6, "fee f f f");
        dueFault(4, "fee n+w");
        dueFault(7, "  fee f?");
        dueFault(3, "fee?");
        dueFault(95, "fee " + "1+".repeat(45) + "1)");
    }

    /** What was open where a text had its fault is nothing to the next one. */
    private static void aFaultIsOverWithItsText() {
        String[] faulty = {"fee ((((((((f+*", "fee !!!!!!!!)", "fee f&f|f<f+f*)", "fee 1<1<", "fine n*", "fee 123456", "fe"};
        Trial t = new Trial(26);
        for (String one : faulty) {
            t.text(one);
            t.put("fee ((((((((8-3))))))))");
            int text = t.call("count", 3);
            t.due(text, "text");
            t.due(5, "fee");
            t.due(2, "textTold", text, 1);
            t.text(one);
            t.call("keep");
            t.put("fee !!!!!!!!(7)+1<3");
            t.due(t.call("count", 3), "text");
            t.due(1, "fee");
            t.call("back");
        }
    }

    /** "Ints wrap". */
    private static void wraps() {
        dueValue(Trial.MIN, "1024*1024*1024*2");
        dueValue(Trial.MAX, "1024*1024*1024*2-1");
        dueValue(Trial.MIN, "1024*1024*1024*2-1+1");
        dueValue(0, "1024*1024*1024*4");
        dueValue(9999 * 9999 * 9999, "9999*9999*9999");
        dueValue(Trial.MAX, "0-1024*1024*1024*2-1");
        // The least int by -1 is itself, and is below 0 though what is less than it wraps.
        dueValue(Trial.MIN, "1024*1024*1024*2/(0-1)");
        dueValue(1, "1024*1024*1024*2<0");
        dueValue(0, "1024*1024*1024*2-1<0");
        dueValue(1, "1024*1024*1024*2<1024*1024*1024*2-1");
        dueValue(0, "1024*1024*1024*2>1024*1024*1024*2-1");
    }

    /** "/ is 0 by 0", "/ cuts towards 0". */
    private static void divides() {
        dueValue(0, "5/0");
        dueValue(0, "0/0");
        dueValue(0, "(0-5)/0");
        dueValue(0, "1024*1024*1024*2/0");
        dueValue(7, "5/0+7");
        dueValue(0, "5/(3-3)");
        dueValue(0, "5/f");
        dueValue(3, "7/2");
        dueValue(-3, "(0-7)/2");
        dueValue(-3, "7/(0-2)");
        dueValue(3, "(0-7)/(0-2)");
        dueValue(0, "1/2");
        dueValue(0, "(0-1)/2");
        dueValue(0, "0/5");
    }

    /** "tests .. give 1 or 0". */
    private static void testsGiveOneOrZero() {
        int[] sides = {2, 3, 4};
        for (int side : sides) {
            dueValue(side < 3 ? 1 : 0, side + "<3");
            dueValue(side == 3 ? 1 : 0, side + "=3");
            dueValue(side > 3 ? 1 : 0, side + ">3");
        }
        dueValue(1, "0-1<0");
        dueValue(0, "0-1>0");
        dueValue(0, "0-1=1");
    }

    /** "& | ! give 1 or 0 (what is not 0 is true ..)". */
    private static void andOrNot() {
        String[] sides = {"0", "1", "7", "(0-1)"};
        for (String a : sides) {
            for (String b : sides) {
                dueValue(a.equals("0") || b.equals("0") ? 0 : 1, a + "&" + b);
                dueValue(a.equals("0") && b.equals("0") ? 0 : 1, a + "|" + b);
            }
            dueValue(a.equals("0") ? 1 : 0, "!" + a);
            dueValue(a.equals("0") ? 0 : 1, "!!" + a);
        }
        // What is 1 by bits alone is not so here.
        dueValue(1, "1&2");
        dueValue(1, "4|2");
        // Without a sign a value stays as it is.
        dueValue(7, "7");
        dueValue(7, "(7)");
        // Both sides are worked out, also where one would do: a division by 0 there is 0.
        dueValue(0, "0&1/0");
        dueValue(1, "1|1/0");
    }

    /** "E, the loosest first: OR, AND, TEST, SUM, TERM, PIECE". */
    private static void loosestFirst() {
        dueValue(1, "1|0&0");
        dueValue(1, "0&0|1");
        dueValue(0, "(1|0)&0");
        dueValue(0, "2&1=2");
        dueValue(1, "1=1&2");
        dueValue(1, "0=1|1");
        dueValue(1, "2+1=3");
        dueValue(1, "3=2+1");
        dueValue(7, "1+2*3");
        dueValue(5, "2*3-1");
        dueValue(4, "9-10/2");
        dueValue(3, "!0+2");
        dueValue(0, "!5*2");
        dueValue(2, "!0*2");
        dueValue(0, "!1=2");
        dueValue(1, "!(1=2)");
        dueValue(1, "!0&5");
        dueValue(1, "1<2&3<4|0");
    }

    /** "SUM: TERM { (+ | -) TERM }; TERM: PIECE { (* | /) PIECE }": from the left on. */
    private static void leftToRight() {
        dueValue(-4, "1-2-3");
        dueValue(2, "1-2+3");
        dueValue(2, "16/4/2");
        dueValue(8, "16/4*2");
        dueValue(6, "7*2/2-1");
        dueValue(0, "2/4*4");
    }

    /** 96 bytes hold 46 NUMBERS, or brackets and signs to the last byte. */
    private static void longestTexts() {
        Trial t = new Trial(27);
        t.put("fee " + "1+".repeat(45) + "1 ");
        t.due(96, "count", 5);
        t.due(0, "text");
        t.due(46, "textTold", 0, 1);
        t.due(46, "fee");
        t.put("fee(" + "2|".repeat(45) + "f)");
        t.due(96, "count", 5);
        t.due(1, "text");
        t.due(46, "textTold", 1, 1);
        t.due(1, "fee");
        t.put("fee " + "!1-".repeat(30) + "!0");
        t.due(96, "count", 5);
        t.due(2, "text");
        t.due(31, "textTold", 2, 1);
        t.due(-1, "fee");
        // As many as can wait for their right side at once: five signs within each of seven (.
        t.put("fee " + "0|1&1=0+1*(".repeat(7) + "1" + ")".repeat(7));
        t.due(3, "text");
        t.due(36, "textTold", 3, 1);
        t.due(1, "fee");
    }

    /** "Of a KEY that TEXT counts that was told last." */
    private static void toldLastCounts() {
        Trial t = new Trial(28).man(0, 5, 6, 7);
        t.text("fee 1");
        t.text("fine 2");
        t.text("fee 3");
        t.text("bears 4");
        t.text("fee (");
        t.text("fine");
        t.due(3, "why", 0);
        t.due(2, "why", 1);
        t.due(1, "why", 2);
        t.due(3, "fee");
        t.due(2, "fine", 0);
        t.due(4, "bears", 0, 0);
        int[] keys = {1, 2, 1, 0};
        for (int i = 0; i < 4; i++) {
            t.due(keys[i], "textTold", i, 0);
        }
    }

    /** "how many NUMBERS and NAMES it has". */
    private static void piecesAreCounted() {
        String[] texts = {"fee 1", "fee f", "fee !(!(s))", "fee f+f+1*1", "fine n<w&!w|12", "bears n+w+f+s"};
        int[] due = {1, 1, 1, 4, 4, 4};
        for (int i = 0; i < texts.length; i++) {
            Trial t = new Trial(27);
            t.put(texts[i]);
            t.due(0, "text");
            t.due(due[i], "textTold", 0, 1);
        }
    }
}
