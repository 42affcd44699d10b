/** The edges that the document names of the texts: Terms 2; promises 10 and 11. */
final class EdgeTextTest {
    private static final int MIN = Integer.MIN_VALUE;
    private static final int MAX = Integer.MAX_VALUE;
    /** A line of each text. */
    private static final String[] LINE = {"gains 1;", "alias 0from 0to 0in 0;", "on 0at 0lie 0;", "street 0 by 1;"};

    private EdgeTextTest() {
    }

    public static void main(String[] args) {
        noSuchText();
        emptyText();
        faultLeavesTheText();
        faultWhat();
        latestText();
        sixteenLines();
        seventeenthAtItsKeyword();
        words();
        digits();
        signs();
        blanks();
        fullTape();
        theEnd();
        firstByItsPlace();
        partByNought();
        quotients();
        wraps();
        bindings();
        comparisons();
        openOnes();
        openOnesTogether();
        shareAlias();
        shareHours();
        shareStreet();
        diaryDay();
        diaryHour();
        diaryWalk();
        diaryGive();
        diaryEyes();
        diaryLie();
        streets();
        streetsEitherWay();
        lawHeld();
        lawWithoutLine();
        lawFirstLine();
        lawWords();
        others();
        lawOfNobody();
        Due.finish("EdgeTextTest");
    }

    private static void noSuchText() {
        Due.says("Promise 10", "NONE: no such one (fault() tells 0); the TAPE is empty in each case");
        for (int k : new int[] {-1, 4, 5, MIN, MAX}) {
            AliasHouse x = Due.house();
            Due.fault(x, 0, "x", 1, 0);
            Due.tape(x, LINE[0], 0);
            Due.is("text(" + k + ")", x.text(k), -1);
            Due.is("fault(0)", x.fault(0), 0);
            Due.is("fault(1)", x.fault(1), -1);
            Due.is("the TAPE is empty", x.end(1), false);
            for (int what = 10; what <= 13; what++) {
                Due.is("look(" + what + ")", x.look(what), 0);
            }
        }
    }

    private static void emptyText() {
        Due.says("Promise 10", "The TAPE, empty then, is TEXT k: how many lines");
        AliasHouse x = Due.house();
        for (int k = 0; k <= 3; k++) {
            Due.lines(x, k, LINE[k] + LINE[k], 2);
            Due.is("look", x.look(10 + k), 2);
            Due.is("the TAPE is empty", x.end(1), false);
            Due.is("the empty tape", x.text(k), 0);
            Due.is("look", x.look(10 + k), 0);
            Due.lines(x, k, LINE[k], 1);
            Due.lines(x, k, "  \n\n ", 0);
            Due.is("look", x.look(10 + k), 0);
            Due.is("the others as before", x.look(10) + x.look(11) + x.look(12) + x.look(13), 0);
        }
        Due.lines(x, 3, LINE[3], 1);
        Due.lines(x, 3, "", 0);
        Due.is("nothing beside", x.street(0, 2), 0);
        Due.lines(x, 0, LINE[0], 1);
        Due.is("gains", x.of(0, 9), 1);
        Due.lines(x, 0, "", 0);
        Due.is("gains without a line", x.of(0, 9), 10);
    }

    private static void faultLeavesTheText() {
        Due.says("Promise 10", "or a FAULT (the TEXT stays as it was; the TAPE is empty in each case)");
        for (int k = 0; k <= 3; k++) {
            AliasHouse x = Due.house();
            Due.lines(x, k, LINE[k], 1);
            // new lines that are whole, and the fault behind them
            String other = new String[] {"gains 2;", "alias 1 from 2 to 3 in 4;", "on 0 at 0 eyes 1 1;", "street 0 by 2;"}[k];
            Due.fault(x, k, other + other + ";", 1, 2 * other.length());
            Due.is("the TAPE is empty", x.end(1), false);
            Due.is("look", x.look(10 + k), 1);
            int[] told = {x.of(0, 9), x.least(1), hourEyes(x), x.street(0, 2)};
            int[] due = {k == 0 ? 1 : 10, 0, 0, k == 3 ? 2 : 0};
            for (int i = 0; i < 4; i++) {
                Due.is("by the old text " + i, told[i], due[i]);
            }
        }
    }

    private static int hourEyes(AliasHouse x) {
        x.hours(1);
        return x.street(1, 0);
    }

    private static void faultWhat() {
        Due.says("Promise 11", "what 0 the FAULT (0 without one), 1 its place (NONE). NONE for another what");
        AliasHouse x = Due.house();
        Due.is("before any text", x.fault(0), 0);
        Due.is("before any text", x.fault(1), -1);
        Due.fault(x, 1, "alias 9", 2, 6);
        for (int what : new int[] {-1, 2, 3, MIN, MAX}) {
            Due.is("fault(" + what + ")", x.fault(what), -1);
        }
        Due.is("asked again", x.fault(0), 2);
        Due.is("asked again", x.fault(1), 6);
    }

    private static void latestText() {
        Due.says("Promise 11", "Of the latest text()");
        AliasHouse x = Due.house();
        Due.fault(x, 0, "seen 1/0", 2, 7);
        Due.tape(x, "seen", 0);
        x.hours(1);
        x.undo();
        Due.is("the tape alone tells nothing", x.fault(1), 7);
        Due.is("at the tape's end", x.text(0), -1);
        Due.is("another fault", x.fault(0), 1);
        Due.is("another place", x.fault(1), 4);
        Due.lines(x, 3, LINE[3], 1);
        Due.fault(x, 3, ";", 1, 0);
        Due.lines(x, 0, "", 0);
    }

    private static void sixteenLines() {
        Due.says("Promise 10, Terms 2", "16 lines of each at most");
        for (int k = 0; k <= 3; k++) {
            AliasHouse x = Due.house();
            Due.lines(x, k, LINE[k].repeat(15), 15);
            Due.lines(x, k, LINE[k].repeat(16), 16);
            Due.fault(x, k, LINE[k].repeat(17), 3, 16 * LINE[k].length());
            Due.is("look", x.look(10 + k), 16);
        }
    }

    private static void seventeenthAtItsKeyword() {
        Due.says("Promise 11, Terms 2", "FAULTS 3 (at its KEYWORD) the 17th line of a text; at one place the least");
        String[] keyword = {"gains", "alias", "on", "street"};
        for (int k = 0; k <= 3; k++) {
            AliasHouse x = Due.house();
            String sixteen = LINE[k].repeat(16);
            int length = sixteen.length();
            Due.fault(x, k, sixteen + keyword[k], 3, length);
            Due.fault(x, k, sixteen + "\n " + keyword[k] + ";", 3, length + 2);
            Due.fault(x, k, sixteen + "from", 1, length);
            Due.fault(x, k, sixteen + ";", 1, length);
            Due.fault(x, k, sixteen + "7", 1, length);
            Due.fault(x, k, sixteen.substring(0, length - 1), 1, length - 1);
            Due.lines(x, k, sixteen + " ", 16);
        }
        AliasHouse x = Due.house();
        for (String word : new String[] {"seen", "costs", "gains"}) {
            Due.fault(x, 0, LINE[0].repeat(16) + word + " 1;", 3, 128);
        }
    }

    private static void words() {
        Due.says("Promise 11, Terms 2", "letters as many as stand together are KEYWORDS (those told here for that text) or none");
        AliasHouse x = Due.house();
        for (char c : new char[] {'a', 'm', 'z', 'A', 'M', 'Z'}) {
            Due.fault(x, 0, "gains" + c + " 1;", 1, 0);
            Due.fault(x, 0, c + "gains 1;", 1, 0);
            Due.fault(x, 0, "gains 1 " + c + ";", 1, 8);
        }
        // the signs beside the letters are none of them
        for (char c : new char[] {'@', '[', '`', '{', (char) 225}) {
            Due.fault(x, 0, "gains" + c + "1;", 1, 5);
        }
        Due.fault(x, 0, "gain 1;", 1, 0);
        Due.fault(x, 0, "gains rankrank;", 1, 6);
        Due.fault(x, 0, "gains ran k;", 1, 6);
        Due.fault(x, 0, "gains ranking;", 1, 6);
        Due.fault(x, 0, "gains r;", 1, 6);
        // those of another text, or of another place, can't stand there
        String[] all = {"seen", "costs", "gains", "when", "or", "and", "not", "rank", "wits", "eyes", "known", "purse", "hour",
            "street", "others", "day", "alias", "from", "to", "in", "on", "at", "walk", "give", "lie", "by"};
        String[] opens = {"seen costs gains", "alias", "on", "street"};
        for (String word : all) {
            for (int k = 0; k <= 3; k++) {
                boolean can = (" " + opens[k] + " ").contains(" " + word + " ");
                Due.fault(Due.house(), k, word + " ", 1, can ? word.length() + 1 : 0);
            }
        }
    }

    private static void digits() {
        Due.says("Promise 11, Terms 2", "digits as many as stand together NUMBERS of 1 to 4 digits or none");
        AliasHouse x = Due.house();
        Due.lines(x, 0, "gains 0;", 1);
        Due.is("0", x.of(0, 9), 0);
        Due.lines(x, 0, "gains 9;", 1);
        Due.is("9", x.of(0, 9), 9);
        Due.lines(x, 0, "seen 9999-9000;", 1);
        Due.is("999", x.of(0, 7), 999);
        Due.lines(x, 0, "gains 0012;", 1);
        Due.is("0012", x.of(0, 9), 12);
        Due.fault(x, 0, "gains 10000;", 1, 6);
        Due.fault(x, 0, "gains 00000;", 1, 6);
        Due.fault(x, 0, "gains 1000000000000;", 1, 6);
        Due.fault(x, 0, "gains 1/00000;", 1, 8);
        Due.fault(x, 0, "gains 1 0;", 1, 8);
        Due.fault(x, 0, "gains 1:;", 1, 7);
        Due.fault(x, 0, "gains 1.5;", 1, 7);
        Due.fault(x, 1, "alias 00000 from 0 to 0 in 0;", 1, 6);
        Due.lines(x, 1, "alias 0000 from 0000 to 0023 in 0009;", 1);
        Due.fault(x, 2, "on 00000 at 0 lie 0;", 1, 3);
        Due.fault(x, 2, "on 0 at 0 give 0 01000;", 1, 17);
        Due.lines(x, 2, "on 0 at 0 give 0 0999;", 1);
        Due.fault(x, 3, "street 00001 by 2;", 1, 7);
        Due.lines(x, 0, "gains1when2=2;", 1);
        Due.is("words and digits side by side", x.of(0, 9), 1);
    }

    private static void signs() {
        Due.says("Promise 11, Terms 2", "; + - * / ( ) < = > . : another can't stand there");
        AliasHouse x = Due.house();
        for (char c = 0; c < 256; c++) {
            boolean blank = c == 32 || c == 10;
            boolean wordOrDigit = c >= '0' && c <= '9' || c >= 'a' && c <= 'z' || c >= 'A' && c <= 'Z';
            boolean goesOn = c == '+' || c == '-' || c == '*' || c == '/';
            if (c % 60 == 0) {
                x = Due.house();
            }
            if (!blank && !wordOrDigit && !goesOn && c != ';') {
                Due.fault(x, 0, "gains 1" + c + ";", 1, 7);
            } else if (goesOn) {
                Due.fault(x, 0, "gains 1" + c + ";", 1, 8);
            }
        }
    }

    private static void blanks() {
        Due.says("Promise 10, Terms 2", "Blanks (32, 10) between");
        AliasHouse x = Due.house();
        Due.lines(x, 0, "\n\n gains \n 5 \n; \n", 1);
        Due.is("gains", x.of(0, 9), 5);
        Due.lines(x, 0, "gains 5+rank*2when(1=1)and not(2<1);", 1);
        Due.is("none between", x.of(0, 9), 15);
        for (char c : new char[] {9, 11, 12, 13, 31, 33, 0, 160}) {
            Due.fault(x, 0, "gains" + c + "5;", 1, 5);
        }
        Due.fault(x, 0, "gai ns 5;", 1, 0);
        Due.lines(x, 0, "gains 4 + 1;", 1);
        Due.is("gains", x.of(0, 9), 5);
    }

    private static void fullTape() {
        Due.says("Promise 10", "The TAPE is TEXT k (of 400 bytes)");
        AliasHouse x = Due.house();
        String law = "gains 0" + "+1".repeat(20) + " when 1=1" + " and 1=1".repeat(42) + ";";
        law = law + " ".repeat(400 - law.length());
        Due.is("bytes", law.length(), 400);
        Due.lines(x, 0, law, 1);
        Due.is("gains", x.of(0, 9), 20);
        Due.fault(x, 0, law.replace(';', ' '), 1, 400);
        String sum = "seen 1" + "+1".repeat(196) + ";;";
        Due.is("bytes", sum.length(), 400);
        Due.fault(x, 0, sum, 1, 399);
        Due.lines(x, 0, sum.substring(0, 399), 1);
        Due.is("seen", x.of(0, 7), 197);
        Due.fault(x, 3, ";".repeat(400), 1, 0);
        Due.lines(x, 3, " ".repeat(386) + "street 0 by 1;", 1);
        Due.is("at the last byte", x.street(1, 2), 1);
    }

    private static void theEnd() {
        Due.says("Promise 11, Terms 2", "1 what can't stand there (the end: the text's length)");
        AliasHouse x = Due.house();
        String[] whole = {"gains 1 + 2 * 3 / 4 when ( not 1 < 2 or 3 = 4 and 5 > 6 ) ;", "alias 0 from 1 to 2 in 3 ;",
            "on 0 at 1 walk 2 3 ;", "street 1 by 2 ;"};
        for (int k = 0; k <= 3; k++) {
            x = Due.house();
            Due.lines(x, k, whole[k], 1);
            for (int cut = whole[k].indexOf(' '); cut > 0; cut = whole[k].indexOf(' ', cut + 1)) {
                Due.fault(x, k, whole[k].substring(0, cut), 1, cut);
                Due.fault(x, k, whole[k].substring(0, cut) + "  \n", 1, cut + 3);
            }
        }
        for (String deed : new String[] {"give 0 1", "eyes 0 1", "lie 0"}) {
            String line = "on 0 at 1 " + deed;
            Due.fault(x, 2, line, 1, line.length());
            Due.lines(x, 2, line + ";", 1);
        }
    }

    private static void firstByItsPlace() {
        Due.says("Promise 11, Terms 2", "FAULTS, the first by its place");
        AliasHouse x = Due.house();
        Due.fault(x, 0, "gains 1/0 x", 2, 8);
        Due.fault(x, 0, "gains x 1/0", 1, 6);
        Due.fault(x, 0, "gains 1/0;" + LINE[0].repeat(17), 2, 8);
        Due.fault(x, 1, "alias 9 from 30 to 40 in 50", 2, 6);
        Due.fault(x, 1, "alias 0 from 30 to 40 in 50", 2, 13);
        Due.fault(x, 1, "alias 0 from 9 to 8 in 50", 2, 18);
        Due.fault(x, 1, "alias 0 from 9 to 9 in 50", 2, 23);
        Due.fault(x, 2, "on 1000 at 24 lie 3;", 2, 3);
        Due.fault(x, 2, "on 999 at 24 lie 3;", 2, 10);
        Due.fault(x, 2, "on 999 at 23 lie 3;", 2, 17);
        Due.fault(x, 2, "on 999 at 23 walk 3 10;", 2, 18);
        Due.fault(x, 3, "street 10 by 10;", 2, 7);
        Due.fault(x, 3, "street 9 by 9 by;", 2, 12);
        Due.fault(x, 0, "gains 1 when " + "(".repeat(9) + "1/0", 3, 21);
        Due.fault(x, 0, "gains 1 when " + "(".repeat(8) + "1/0", 2, 23);
        Due.fault(x, 0, LINE[0] + " gains 1 1", 1, 17);
    }

    private static void partByNought() {
        Due.says("Promise 11, Terms 2", "2 (at the NUMBER) a part by 0");
        AliasHouse x = Due.house();
        for (String nought : new String[] {"0", "00", "000", "0000"}) {
            Due.fault(x, 0, "gains 8 / " + nought + ";", 2, 10);
        }
        Due.fault(x, 0, "gains 8/2/0;", 2, 10);
        Due.fault(x, 0, "gains 1 when 8/0=1;", 2, 15);
        Due.fault(x, 0, "gains 1 when 8=1/0;", 2, 17);
        Due.lines(x, 0, "gains 8/1;", 1);
        Due.is("by 1", x.of(0, 9), 8);
        Due.lines(x, 0, "gains 0/9999;", 1);
        Due.is("0 by 9999", x.of(0, 9), 0);
        Due.lines(x, 0, "gains 9*0;", 1);
        Due.says("Promise 11, Terms 2", "T = U {* U | / NUMBER}");
        Due.fault(x, 0, "gains 8/rank;", 1, 8);
        Due.fault(x, 0, "gains 8/(2);", 1, 8);
        Due.fault(x, 0, "gains 8/-2;", 1, 8);
        Due.fault(x, 0, "gains -8;", 1, 6);
        Due.fault(x, 0, "gains (8);", 1, 6);
    }

    /** What E comes to, told by 7 more, so that below 0 can be seen. */
    private static int worth(String e) {
        AliasHouse x = Due.house();
        Due.lines(x, 0, "seen 7+" + e + ";", 1);
        return x.of(0, 7) - 7;
    }

    private static void quotients() {
        Due.says("Promise 12, Terms 2", "/ goes towards 0");
        Due.is("7/2", worth("7/2"), 3);
        Due.is("8/2", worth("8/2"), 4);
        Due.is("1/2", worth("1/2"), 0);
        // 128*256*256*256 wraps to -2147483648: by 9999 it is -214769 (and 8417 over), downwards it would be -214770
        Due.is("below 0", worth("128*256*256*256/9999+2147*100+69"), 0);
        Due.is("below 0", worth("128*256*256*256/9999/9999+21"), 0);
        Due.is("by 1000", worth("128*256*256*256/1000/1000+2147"), 0);
        Due.is("from the left", worth("100/7/2"), 7);
        Due.is("from the left", worth("7/2*2"), 6);
        Due.is("from the left", worth("7*2/4"), 3);
    }

    private static void wraps() {
        Due.says("Promise 12, Terms 2", "Ints, which wrap");
        Due.is("2 to the 32nd", worth("256*256*256*256+5"), 5);
        // -102745 and some over
        Due.is("9999 to the 3rd is -1027349969", worth("9999*9999*9999/9999+9999*10+2755+5"), 5);
        AliasHouse x = Due.house();
        Due.lines(x, 0, "seen 5 when 128*256*256*256<0;seen 6;", 2);
        Due.is("above the greatest is below 0", x.of(0, 7), 5);
        Due.lines(x, 0, "seen 5 when 128*256*256*256-1>0;seen 6;", 2);
        Due.is("below the least is above 0", x.of(0, 7), 5);
        Due.lines(x, 0, "seen 5 when 128*256*256*256+128*256*256*256=0;seen 6;", 2);
        Due.is("twice the least is 0", x.of(0, 7), 5);
    }

    private static boolean so(String b) {
        AliasHouse x = Due.house();
        Due.lines(x, 0, "seen 1 when " + b + ";seen 0;", 2);
        return x.of(0, 7) == 1;
    }

    private static void bindings() {
        Due.says("Promise 12, Terms 2", "B = A {or A}. A = C {and C}. C = .. | not C | ( B ). E = T {(+ | -) T}. T = U {* U | / NUMBER}");
        Due.is("9-3-2", worth("9-3-2"), 4);
        Due.is("2+3*4", worth("2+3*4"), 14);
        Due.is("20-2*3+1", worth("20-2*3+1"), 15);
        String[] c = {"1=2", "1=1"};
        for (int bits = 0; bits < 16; bits++) {
            boolean p = (bits & 1) != 0;
            boolean q = (bits & 2) != 0;
            boolean r = (bits & 4) != 0;
            boolean s = (bits & 8) != 0;
            String[] t = {c[p ? 1 : 0], c[q ? 1 : 0], c[r ? 1 : 0], c[s ? 1 : 0]};
            Due.is("or and, " + bits, so(t[0] + " or " + t[1] + " and " + t[2]), p || q && r);
            Due.is("and or and, " + bits, so(t[0] + " and " + t[1] + " or " + t[2] + " and " + t[3]), p && q || r && s);
            Due.is("or or and, " + bits, so(t[0] + " or " + t[1] + " or " + t[2] + " and " + t[3]), p || q || r && s);
            Due.is("not or, " + bits, so("not " + t[0] + " or " + t[1]), !p || q);
            Due.is("not and, " + bits, so("not " + t[0] + " and " + t[1]), !p && q);
            Due.is("not ( or ) and, " + bits, so("not(" + t[0] + " or " + t[1] + ")and " + t[2]), !(p || q) && r);
            Due.is("( or ) and ( or ), " + bits, so("(" + t[0] + " or " + t[1] + ")and(" + t[2] + " or " + t[3] + ")"), (p || q) && (r || s));
            Due.is("not not, " + bits, so("not not " + t[0]), p);
        }
    }

    private static void comparisons() {
        Due.says("Promise 12, Terms 2", "C = E (< | = | >) E");
        String[] sign = {"<", "=", ">"};
        for (int a = 1; a <= 3; a++) {
            boolean[] due = {a < 2, a == 2, a > 2};
            for (int i = 0; i < 3; i++) {
                Due.is(a + sign[i] + "2", so(a + sign[i] + "2"), due[i]);
                Due.is("sums", so(a + "+1" + sign[i] + "9/3"), due[i]);
                Due.is("not " + a + sign[i] + "2", so("not " + a + sign[i] + "2"), !due[i]);
                Due.is("not not " + a + sign[i] + "2", so("not not " + a + sign[i] + "2"), due[i]);
                for (int j = 0; j < 3; j++) {
                    String other = a + sign[j] + "2";
                    Due.is(i + " and " + j, so(a + sign[i] + "2 and " + other), due[i] && due[j]);
                    Due.is(i + " or " + j, so(a + sign[i] + "2 or " + other), due[i] || due[j]);
                    Due.is("not (" + i + " or " + j + ")", so("not(" + a + sign[i] + "2 or " + other + ")"), !(due[i] || due[j]));
                }
            }
        }
        AliasHouse x = Due.house();
        Due.fault(x, 0, "gains 1 when 1;", 1, 14);
        Due.fault(x, 0, "gains 1 when 1<=2;", 1, 15);
        Due.fault(x, 0, "gains 1 when 1=1=1;", 1, 16);
        Due.fault(x, 0, "gains 1 when (1)=1;", 1, 15);
        Due.fault(x, 0, "gains 1 when ();", 1, 14);
        Due.fault(x, 0, "gains 1 when not;", 1, 16);
        Due.fault(x, 0, "gains 1 when 1=1 not 1=1;", 1, 17);
        Due.fault(x, 0, "gains 1 when and 1=1;", 1, 13);
        Due.fault(x, 0, "gains 1 when;", 1, 12);
        Due.fault(x, 0, "gains 1 when 1=1);", 1, 16);
        Due.fault(x, 0, "gains 1 when (1=1;", 1, 17);
        Due.fault(x, 0, "gains 1 when 1=1 when 1=1;", 1, 17);
        Due.fault(x, 0, "gains 1<2;", 1, 7);
    }

    private static void openOnes() {
        Due.says("Promise 11, Terms 2", "3 (at it) the 9th ( or not that is open");
        AliasHouse x = Due.house();
        for (int open = 1; open <= 8; open++) {
            Due.is(open + " (", so("(".repeat(open) + "1=1" + ")".repeat(open)), true);
            Due.is(open + " not", so("not ".repeat(open) + "1=1"), open % 2 == 0);
        }
        String start = "gains 1 when ";
        Due.fault(x, 0, start + "(".repeat(9) + "1=1" + ")".repeat(9) + ";", 3, start.length() + 8);
        Due.fault(x, 0, start + "not ".repeat(9) + "1=1;", 3, start.length() + 32);
        Due.fault(x, 0, start + "(".repeat(9), 3, start.length() + 8);
        Due.fault(x, 0, start + "(".repeat(8), 1, start.length() + 8);
        Due.fault(x, 0, start + "(".repeat(8) + "1=1" + ")".repeat(7) + ";", 1, start.length() + 18);
        Due.fault(x, 0, start + "(".repeat(8) + "1=1" + ")".repeat(9) + ";", 1, start.length() + 19);
        // at one place the least: where it can't stand at all
        Due.fault(x, 0, start + "(".repeat(8) + "1=(", 1, start.length() + 10);
        Due.fault(x, 0, start + "(".repeat(8) + "1 not", 1, start.length() + 10);
    }

    private static void openOnesTogether() {
        Due.says("Promise 11, Terms 2", "3 (at it) the 9th ( or not that is open");
        AliasHouse x = Due.house();
        String start = "gains 1 when ";
        Due.is("four of each", so("not(".repeat(4) + "1=1" + ")".repeat(4)), true);
        Due.is("not behind eight that are closed", so("(".repeat(8) + "1=1" + ")".repeat(8) + "and not 1=2"), true);
        Due.is("( behind eight not", so("not ".repeat(8) + "1=1 and(1=1)"), true);
        Due.is("one beside the other", so("not(1=2)and ".repeat(12) + "not not 1=1"), true);
        Due.is("in one another, then beside", so("((((((((1=1)and(1=1)))))))and not(1=2))"), true);
        Due.fault(x, 0, start + "not(".repeat(4) + "not 1=1", 3, start.length() + 16);
        Due.fault(x, 0, start + "not(".repeat(4) + "(1=1", 3, start.length() + 16);
        Due.fault(x, 0, start + "(".repeat(7) + "not not 1=1", 3, start.length() + 11);
        Due.fault(x, 0, start + "not ".repeat(7) + "((1=1", 3, start.length() + 29);
        Due.fault(x, 0, start + "(".repeat(8) + "1=1 and(1=1", 3, start.length() + 15);
        Due.fault(x, 0, start + "(".repeat(8) + "1=1 or not 1=1", 3, start.length() + 15);
    }

    private static void shareAlias() {
        Due.says("Promise 11, Terms 2", "2 (at the NUMBER) an ALIAS that there is not");
        AliasHouse x = new AliasHouse();
        Due.fault(x, 1, "alias 0 from 0 to 0 in 0;", 2, 6);
        x.person(0, 0);
        x.alias(0, 0, 0);
        Due.lines(x, 1, "alias 0 from 0 to 0 in 0;", 1);
        Due.fault(x, 1, "alias 1 from 0 to 0 in 0;", 2, 6);
        for (int a = 1; a < 18; a++) {
            x.alias(0, 0, 0);
        }
        Due.lines(x, 1, "alias 17 from 0 to 0 in 0;", 1);
        Due.fault(x, 1, "alias 18 from 0 to 0 in 0;", 2, 6);
        Due.fault(x, 1, "alias 9999 from 0 to 0 in 0;", 2, 6);
    }

    private static void shareHours() {
        Due.says("Promise 11, Terms 2", "1 SHARES: 0 .. 23, the second not below the first; both too");
        AliasHouse x = Due.house();
        Due.lines(x, 1, "alias 0 from 0 to 23 in 0;alias 0 from 23 to 23 in 0;alias 0 from 0 to 0 in 0;", 3);
        Due.fault(x, 1, "alias 0 from 24 to 24 in 0;", 2, 13);
        Due.fault(x, 1, "alias 0 from 0 to 24 in 0;", 2, 18);
        Due.fault(x, 1, "alias 0 from 23 to 24 in 0;", 2, 19);
        Due.fault(x, 1, "alias 0 from 23 to 22 in 0;", 2, 19);
        Due.fault(x, 1, "alias 0 from 1 to 0 in 0;", 2, 18);
        Due.lines(x, 1, "alias 0 from 7 to 7 in 3;", 1);
        x.hours(7);
        Due.is("hour 6", x.of(0, 4), 0);
        x.hours(1);
        Due.is("hour 7", x.of(0, 4), 1);
        x.hours(1);
        Due.is("hour 8", x.of(0, 4), 0);
    }

    private static void shareStreet() {
        Due.says("Promise 11, Terms 2", "2 (at the NUMBER) one beyond its bounds: STREET");
        AliasHouse x = Due.house();
        Due.lines(x, 1, "alias 0 from 0 to 0 in 0;alias 0 from 0 to 0 in 9;", 2);
        Due.fault(x, 1, "alias 0 from 0 to 0 in 10;", 2, 23);
        Due.fault(x, 1, "alias 0 from 0 to 0 in 9999;", 2, 23);
        Due.lines(x, 1, "alias 0 from 0 to 0 in 9;", 1);
        x.hours(1);
        Due.is("IN 9", x.of(0, 3), 9);
    }

    private static void diaryDay() {
        Due.says("Promise 11, Terms 2", "2 DIARY: DAY 0 .. 999");
        AliasHouse x = Due.house();
        Due.lines(x, 2, "on 0 at 0 lie 0;on 999 at 0 lie 0;", 2);
        Due.fault(x, 2, "on 1000 at 0 lie 0;", 2, 3);
        Due.fault(x, 2, "on 9999 at 0 lie 0;", 2, 3);
    }

    private static void diaryHour() {
        Due.says("Promise 11, Terms 2", "2 DIARY: HOUR 0 .. 23");
        AliasHouse x = Due.house();
        Due.lines(x, 2, "on 0 at 0 lie 0;on 0 at 23 lie 0;", 2);
        Due.fault(x, 2, "on 0 at 24 lie 0;", 2, 8);
        Due.fault(x, 2, "on 0 at 9999 lie 0;", 2, 8);
    }

    private static void diaryWalk() {
        Due.says("Promise 11, Terms 2", "2 DIARY: walk ALIAS STREET");
        AliasHouse x = Due.house();
        Due.lines(x, 2, "on 0 at 0 walk 0 0;on 0 at 0 walk 2 9;", 2);
        Due.fault(x, 2, "on 0 at 0 walk 3 0;", 2, 15);
        Due.fault(x, 2, "on 0 at 0 walk 2 10;", 2, 17);
        Due.fault(x, 2, "on 0 at 0 walk 2;", 1, 16);
        Due.fault(x, 2, "on 0 at 0 walk;", 1, 14);
        Due.fault(new AliasHouse(), 2, "on 0 at 0 walk 0 0;", 2, 15);
    }

    private static void diaryGive() {
        Due.says("Promise 11, Terms 2", "2 DIARY: give PERSON N: give 1 .. 999; a PERSON that there is not");
        AliasHouse x = Due.house();
        Due.lines(x, 2, "on 0 at 0 give 0 1;on 0 at 0 give 1 999;", 2);
        x.hours(1);
        Due.is("1 more", x.who(0, 1), 101);
        Due.is("999 more", x.who(1, 1), 1004);
        Due.fault(x, 2, "on 0 at 0 give 0 0;", 2, 17);
        Due.fault(x, 2, "on 0 at 0 give 0 1000;", 2, 17);
        Due.fault(x, 2, "on 0 at 0 give 2 1;", 2, 15);
        Due.fault(x, 2, "on 0 at 0 give 0;", 1, 16);
        Due.fault(new AliasHouse(), 2, "on 0 at 0 give 0 1;", 2, 15);
        for (int p = 2; p < 6; p++) {
            x.person(0, 0);
        }
        Due.lines(x, 2, "on 0 at 0 give 5 1;", 1);
        Due.fault(x, 2, "on 0 at 0 give 6 1;", 2, 15);
    }

    private static void diaryEyes() {
        Due.says("Promise 11, Terms 2", "2 DIARY: eyes STREET N: eyes 0 .. 9");
        AliasHouse x = new AliasHouse();
        x.set(0, 0, 5);
        Due.lines(x, 2, "on 0 at 0 eyes 0 0;on 0 at 0 eyes 9 9;", 2);
        x.hours(1);
        Due.is("0", x.street(0, 0), 0);
        Due.is("9", x.street(9, 0), 9);
        Due.fault(x, 2, "on 0 at 0 eyes 10 0;", 2, 15);
        Due.fault(x, 2, "on 0 at 0 eyes 0 10;", 2, 17);
        Due.fault(x, 2, "on 0 at 0 eyes 0;", 1, 16);
    }

    private static void diaryLie() {
        Due.says("Promise 11, Terms 2", "2 DIARY: lie ALIAS");
        AliasHouse x = Due.house();
        Due.lines(x, 2, "on 0 at 0 lie 0;on 0 at 0 lie 2;", 2);
        Due.fault(x, 2, "on 0 at 0 lie 3;", 2, 14);
        Due.fault(x, 2, "on 0 at 0 lie 0 0;", 1, 16);
        Due.fault(x, 2, "on 0 at 0 lie;", 1, 13);
        Due.fault(x, 2, "on 0 at 0 rank 0;", 1, 10);
        Due.fault(x, 2, "on 0 at 0 0;", 1, 10);
        Due.fault(new AliasHouse(), 2, "on 0 at 0 lie 0;", 2, 14);
    }

    private static void streets() {
        Due.says("Promise 11, Terms 2", "3 STREETS (unlike): 2 (at the NUMBER) the same STREET again");
        AliasHouse x = new AliasHouse();
        Due.lines(x, 3, "street 0 by 9;street 9 by 8;", 2);
        Due.fault(x, 3, "street 0 by 0;", 2, 12);
        Due.fault(x, 3, "street 9 by 9;", 2, 12);
        Due.fault(x, 3, "street 9 by 0009;", 2, 12);
        Due.fault(x, 3, "street 10 by 0;", 2, 7);
        Due.fault(x, 3, "street 0 by 10;", 2, 12);
        Due.is("as before", x.look(13), 2);
    }

    private static void streetsEitherWay() {
        Due.says("Promise 14, Terms 2", "street STREET by STREET (either way)");
        AliasHouse x = new AliasHouse();
        Due.lines(x, 3, "street 9 by 0;street 4 by 5;street 5 by 4;street 4 by 5;", 4);
        Due.is("beside 0", x.street(0, 2), 512);
        Due.is("beside 9", x.street(9, 2), 1);
        Due.is("told twice", x.street(4, 2), 32);
        Due.is("way", x.persons(0, 9), 5);
        Due.is("way", x.persons(9, 0), 5);
    }

    private static void lawHeld() {
        Due.says("Promise 12, Terms 2", "seen held to 0 .. 1000, costs, gains to 0 .. 99");
        String[] word = {"seen", "costs", "gains"};
        int[] most = {1000, 99, 99};
        for (int i = 0; i < 3; i++) {
            AliasHouse x = Due.house();
            int[][] cases = {{0, 0}, {1, 1}, {most[i] - 1, most[i] - 1}, {most[i], most[i]}, {most[i] + 1, most[i]}, {9999, most[i]}};
            for (int[] c : cases) {
                Due.lines(x, 0, word[i] + " " + c[0] + ";", 1);
                Due.is(word[i] + " " + c[0], x.of(0, 7 + i), c[1]);
            }
            Due.lines(x, 0, word[i] + " 0-1;", 1);
            Due.is(word[i] + " -1", x.of(0, 7 + i), 0);
            Due.lines(x, 0, word[i] + " 128*256*256*256;", 1);
            Due.is(word[i] + " of the least int", x.of(0, 7 + i), 0);
            Due.lines(x, 0, word[i] + " 128*256*256*256-1;", 1);
            Due.is(word[i] + " of the greatest int", x.of(0, 7 + i), most[i]);
        }
    }

    private static void lawWithoutLine() {
        Due.says("Promise 12, Terms 2", "none: seen: 100 times eyes less 50 times wits, costs: 1 and rank, gains: 2 times rank");
        AliasHouse x = Due.house();
        for (int eyes = 0; eyes <= 9; eyes += 3) {
            for (int wits = 0; wits <= 9; wits++) {
                x.set(0, 1, eyes);
                x.set(1, 0, wits);
                Due.is("eyes " + eyes + ", wits " + wits, x.of(0, 7), Math.max(0, 100 * eyes - 50 * wits));
            }
        }
        for (int rank : new int[] {0, 1, 9}) {
            x.set(3, 0, rank);
            Due.is("costs", x.of(0, 8), 1 + rank);
            Due.is("gains", x.of(0, 9), 2 * rank);
        }
        Due.lines(x, 0, "seen 3;", 1);
        Due.is("a line for seen is none for costs", x.of(0, 8), 10);
        Due.is("nor for gains", x.of(0, 9), 18);
        Due.lines(x, 0, "seen 3 when 1=2;costs 4 when 1=2;gains 5 when 1=2;", 3);
        Due.is("no B is so: seen", x.of(0, 7), 450);
        Due.is("no B is so: costs", x.of(0, 8), 10);
        Due.is("no B is so: gains", x.of(0, 9), 18);
    }

    private static void lawFirstLine() {
        Due.says("Promise 12, Terms 2", "E of the first line with that word whose B is so, or that has none");
        AliasHouse x = Due.house();
        Due.lines(x, 0, "seen 1 when rank>5;gains 9;seen 2 when rank>4;seen 3;seen 4 when rank>1;", 5);
        Due.is("rank 5", x.of(0, 7), 2);
        Due.is("rank 7", x.of(1, 7), 1);
        Due.is("rank 2", x.of(2, 7), 3);
        Due.lines(x, 0, "gains 1 when 1=2;".repeat(15) + "gains 7;", 16);
        Due.is("the sixteenth line", x.of(0, 9), 7);
        Due.lines(x, 0, "gains 7;" + "gains 1;".repeat(15), 16);
        Due.is("the first line", x.of(0, 9), 7);
    }

    private static int tells(AliasHouse x, int a, String word) {
        Due.lines(x, 0, "seen " + word + ";", 1);
        return x.of(a, 7);
    }

    private static void lawWords() {
        Due.says("Promise 12, Terms 2", "rank; wits, purse: of its PERSON; eyes: of the STREET IN which it is; known: SEEN; street; hour; day");
        AliasHouse x = Due.house();
        x.hours(47);
        x.set(0, 1, 3);
        x.set(0, 6, 8);
        x.set(4, 2, 44);
        x.act(0, 2, 6);
        Due.is("rank", tells(x, 2, "rank"), 2);
        Due.is("wits", tells(x, 2, "wits"), 3);
        Due.is("purse", tells(x, 2, "purse"), 5);
        Due.is("eyes where it is, not at HOME", tells(x, 2, "eyes"), 8);
        Due.is("known", tells(x, 2, "known"), 44);
        Due.is("street where it is", tells(x, 2, "street"), 6);
        Due.is("hour 23", tells(x, 2, "hour"), 23);
        Due.is("day 1", tells(x, 2, "day"), 1);
        x.act(1, 2, 0);
        Due.is("eyes at HOME", tells(x, 2, "eyes"), 3);
        Due.is("street at HOME", tells(x, 2, "street"), 1);
        x.hours(1);
        Due.is("hour 0", tells(x, 2, "hour"), 0);
        Due.is("day 2", tells(x, 2, "day"), 2);
        x.set(2, 1, 9999);
        Due.is("purse 9999", tells(x, 2, "purse/10"), 999);
    }

    private static void others() {
        Due.says("Promise 12, Terms 2", "others: how many other ALIASES are OUT in that STREET");
        AliasHouse x = new AliasHouse();
        x.person(0, 0);
        for (int a = 0; a < 18; a++) {
            x.alias(0, 0, 4);
        }
        Due.is("who lies there is none", tells(x, 0, "others"), 0);
        x.act(0, 0, 4);
        Due.is("itself is none", tells(x, 0, "others"), 0);
        Due.is("one for who lies there", tells(x, 1, "others"), 1);
        x.act(0, 1, 5);
        Due.is("elsewhere is none", tells(x, 0, "others"), 0);
        for (int a = 1; a < 18; a++) {
            x.act(0, a, 4);
        }
        Due.is("all the others", tells(x, 17, "others"), 17);
        Due.is("all the others", tells(x, 0, "others"), 17);
        x.act(1, 9, 0);
        Due.is("all of them", tells(x, 9, "others"), 17);
        Due.is("but one", tells(x, 0, "others"), 16);
    }

    private static void lawOfNobody() {
        Due.says("Promise 12", "7 seen, 8 costs, 9 gains: of an ALIAS that is STRUCK, too");
        AliasHouse x = Due.house();
        x.set(4, 0, 99);
        x.hours(1);
        Due.is("STRUCK", x.of(0, 6), 1);
        Due.is("known", tells(x, 0, "known"), 99);
        Due.is("costs", x.of(0, 8), 6);
        Due.is("gains", x.of(0, 9), 10);
    }
}
