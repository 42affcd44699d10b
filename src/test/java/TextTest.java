/** Promises 10 and 11: the four texts, their tokens, their faults, and what THE LAW tells. */
final class TextTest {
    private TextTest() {
    }

    public static void main(String[] args) {
        noSuchText();
        textStaysBehindAFault();
        tokens();
        numbers();
        sums();
        conditions();
        firstLineThatHolds();
        words();
        openOnes();
        lawFaults();
        shares();
        diary();
        streets();
        fullTape();
        sixteenLines();
        Due.finish("TextTest");
    }

    private static String times(int n, String s) {
        return s.repeat(n);
    }

    private static void noSuchText() {
        AliasHouse x = Due.house();
        Due.fault(x, 0, "seen", 1, 4);
        Due.is("fault(2)", x.fault(2), -1);
        Due.is("fault(-1)", x.fault(-1), -1);
        for (int k : new int[] {-1, 4}) {
            Due.tape(x, "seen 1;", 0);
            Due.is("text(" + k + ")", x.text(k), -1);
            Due.is("no fault", x.fault(0), 0);
            Due.is("no place", x.fault(1), -1);
            Due.is("tape is empty", x.end(1), false);
        }
        Due.is("the empty tape is a law", x.text(0), 0);
    }

    private static void textStaysBehindAFault() {
        AliasHouse x = Due.house();
        Due.lines(x, 0, "seen 7; gains 8;", 2);
        Due.fault(x, 0, "seen 9; gains", 1, 13);
        Due.is("tape is empty", x.end(1), false);
        Due.is("lines", x.look(10), 2);
        Due.is("seen", x.of(0, 7), 7);
        Due.lines(x, 1, "alias 0 from 1 to 2 in 3;", 1);
        Due.fault(x, 1, "alias 1 from 5 to 5 in 3; alias 1", 1, 33);
        Due.is("shares", x.look(11), 1);
        Due.is("shares", x.least(1), 1);
        Due.lines(x, 2, "on 0 at 0 eyes 1 2;", 1);
        Due.fault(x, 2, "on 0 at 0 eyes 1 5; x", 1, 20);
        Due.is("diary", x.look(12), 1);
        x.hours(1);
        Due.is("old diary", x.street(1, 0), 2);
        Due.lines(x, 3, "street 0 by 1;", 1);
        Due.fault(x, 3, "street 0 by 2; street 0 by 0;", 2, 27);
        Due.is("streets", x.street(0, 2), 2);
        Due.lines(x, 0, "seen 1;", 1);
        Due.is("a text takes the place of the old one", x.look(10), 1);
        Due.lines(x, 0, "  \n ", 0);
        Due.is("none", x.look(10), 0);
        Due.is("told by no line", x.of(0, 8), 6);
    }

    private static void tokens() {
        AliasHouse x = Due.house();
        Due.lines(x, 0, "seen5when1<2;gains\n7\n;", 2);
        Due.is("seen", x.of(0, 7), 5);
        Due.is("gains", x.of(0, 9), 7);
        Due.lines(x, 0, "seen 5when 1<2and 3>2or 1=1;", 1);
        for (String letter : new String[] {"a", "z", "A", "Z", "m", "M"}) {
            Due.fault(x, 0, "seen" + letter + " 1;", 1, 0);
            Due.fault(x, 0, letter + "seen 1;", 1, 0);
        }
        Due.fault(x, 0, "seen@ 1;", 1, 4);
        Due.fault(x, 0, "seen[ 1;", 1, 4);
        Due.fault(x, 0, "seen` 1;", 1, 4);
        Due.fault(x, 0, "seen{ 1;", 1, 4);
        Due.fault(x, 0, "seen 1:", 1, 6);
        Due.fault(x, 0, "seenrank;", 1, 0);
        Due.fault(x, 0, "seen rankwits;", 1, 5);
        Due.fault(x, 0, "Seen 1;", 1, 0);
        Due.fault(x, 0, "seen RANK;", 1, 5);
        Due.fault(x, 0, "see n 1;", 1, 0);
        Due.fault(x, 0, "seens 1;", 1, 0);
        Due.fault(x, 0, "seen\t1;", 1, 4);
        Due.fault(x, 0, "seen\r1;", 1, 4);
        Due.fault(x, 0, "seen 1.;", 1, 6);
        Due.fault(x, 0, "seen #;", 1, 5);
        Due.fault(x, 0, "seen " + (char) 233 + ";", 1, 5);
        Due.fault(x, 0, "seen 1" + (char) 0 + ";", 1, 6);
        Due.fault(x, 0, "seen from;", 1, 5);
        Due.fault(x, 0, "  ;", 1, 2);
    }

    private static void numbers() {
        AliasHouse x = Due.house();
        Due.lines(x, 0, "seen 0009; gains 9999/1000; costs 9999-9998;", 3);
        Due.is("0009", x.of(0, 7), 9);
        Due.is("9999", x.of(0, 9), 9);
        Due.is("9998", x.of(0, 8), 1);
        Due.fault(x, 0, "seen 00009;", 1, 5);
        Due.fault(x, 0, "00000 1;", 1, 0);
        Due.fault(x, 0, "seen 00007;", 1, 5);
        Due.fault(x, 0, "seen 12345;", 1, 5);
        Due.fault(x, 0, "seen 1 2;", 1, 7);
        Due.fault(x, 0, "seen 1/12345;", 1, 7);
        Due.fault(x, 3, "street 00001 by 2;", 1, 7);
        Due.lines(x, 3, "street 0001 by 0002;", 1);
        Due.is("beside", x.street(1, 2), 4);
    }

    private static int seen(AliasHouse x, String sum) {
        Due.lines(x, 0, "seen " + sum + ";", 1);
        return x.of(0, 7);
    }

    private static void sums() {
        AliasHouse x = Due.house();
        Due.is("2+3*4", seen(x, "2+3*4"), 14);
        Due.is("2*3+4", seen(x, "2*3+4"), 10);
        Due.is("9-3-2", seen(x, "9-3-2"), 4);
        Due.is("9-3+2", seen(x, "9-3+2"), 8);
        Due.is("100/7/2", seen(x, "100/7/2"), 7);
        Due.is("7/2*2", seen(x, "7/2*2"), 6);
        Due.is("9-8/2", seen(x, "9-8/2"), 5);
        Due.is("20-2*3-4", seen(x, "20-2*3-4"), 10);
        Due.is("10-7/2", seen(x, "10-7/2"), 7);
        Due.lines(x, 0, "seen 5 when rank-12=0-7 and 1=1; seen 6;", 2);
        Due.is("below 0", x.of(0, 7), 5);
        Due.is("wraps", seen(x, "9999*9999*9999/9999*0+12"), 12);
        Due.is("wraps to 1000", seen(x, "65*256*256*256*2*2*2-128*256*256*256*2+13"), 1000);
        Due.is("a product wraps", seen(x, "256*256*256*256+9"), 9);
        Due.is("down from the least", seen(x, "128*256*256*256-1-9999*9999"), 1000);
        towardsZero();
        Due.fault(x, 0, "seen 8/0;", 2, 7);
        Due.fault(x, 0, "seen 8/0000;", 2, 7);
        Due.fault(x, 0, "seen 8/rank;", 1, 7);
        Due.fault(x, 0, "seen 8/2/0;", 2, 9);
        Due.fault(x, 0, "seen 8*;", 1, 7);
        Due.fault(x, 0, "seen -8;", 1, 5);
        Due.fault(x, 0, "seen (8);", 1, 5);
        Due.fault(x, 0, "seen 8*(8);", 1, 7);
        Due.fault(x, 0, "seen 8+-8;", 1, 7);
    }

    /** 128*256*256*256 wraps to the least int, -2147483648; by 1000 it is -2147483, not -2147484. */
    private static void towardsZero() {
        AliasHouse x = Due.house();
        Due.is("towards 0", seen(x, "128*256*256*256/1000+2147*1000+490"), 7);
    }

    private static boolean holds(AliasHouse x, String condition) {
        Due.lines(x, 0, "seen 1 when " + condition + "; seen 0;", 2);
        return x.of(0, 7) == 1;
    }

    private static void conditions() {
        AliasHouse x = Due.house();
        Due.is("1<2", holds(x, "1<2"), true);
        Due.is("2<2", holds(x, "2<2"), false);
        Due.is("2=2", holds(x, "2=2"), true);
        Due.is("2=3", holds(x, "2=3"), false);
        Due.is("3>2", holds(x, "3>2"), true);
        Due.is("2>2", holds(x, "2>2"), false);
        Due.is("1+1=2", holds(x, "1+1=2*1"), true);
        Due.is("0-1<0", holds(x, "0-1<0"), true);
        Due.is("not", holds(x, "not 1=2"), true);
        Due.is("not not", holds(x, "not not 1=2"), false);
        Due.is("not binds first", holds(x, "not 1=2 and 1=2"), false);
        Due.is("not binds first", holds(x, "not 1=1 or 1=1"), true);
        Due.is("not of ( )", holds(x, "not (1=1 or 1=1)"), false);
        Due.is("and before or", holds(x, "1=1 or 1=1 and 1=2"), true);
        Due.is("and before or", holds(x, "1=2 and 1=2 or 1=1"), true);
        Due.is("( )", holds(x, "(1=1 or 1=1) and 1=2"), false);
        Due.is("( )", holds(x, "1=2 and (1=2 or 1=1)"), false);
        Due.is("or or", holds(x, "1=2 or 1=2 or 1=1"), true);
        Due.is("or or", holds(x, "1=2 or 1=2 or 1=3"), false);
        Due.is("and and", holds(x, "1=1 and 1=1 and 1=2"), false);
        Due.is("and and", holds(x, "1=1 and 1=1 and 1=1"), true);
        Due.is("or and or", holds(x, "1=2 or 1=1 and 1=1 or 1=2"), true);
        Due.is("or and or", holds(x, "1=2 or 1=1 and 1=2 or 1=2"), false);
        Due.is("((1=1))", holds(x, "((1=1))"), true);
        Due.is("words", holds(x, "rank=5 and wits=2 and purse=100"), true);
    }

    private static void firstLineThatHolds() {
        AliasHouse x = Due.house();
        Due.lines(x, 0, "seen 1 when rank=7; costs 9; seen 2 when rank=5; seen 3; seen 4 when rank=2;", 5);
        Due.is("of 0", x.of(0, 7), 2);
        Due.is("of 1", x.of(1, 7), 1);
        Due.is("of 2", x.of(2, 7), 3);
        Due.is("costs", x.of(0, 8), 9);
        Due.is("no line for gains", x.of(0, 9), 10);
        Due.lines(x, 0, "seen 1 when rank=7;", 1);
        Due.is("none that holds", x.of(0, 7), 0);
        x.set(0, 1, 4);
        Due.is("none that holds", x.of(0, 7), 300);
        Due.is("of another", x.of(2, 7), 250);
    }

    private static void words() {
        AliasHouse x = Due.house();
        x.alias(1, 9, 4);
        x.set(0, 4, 8);
        x.set(0, 3, 6);
        x.set(4, 0, 33);
        x.set(2, 0, 77);
        x.hours(50);
        x.act(0, 0, 4);
        x.act(0, 1, 4);
        x.act(0, 2, 4);
        Due.is("rank", seen(x, "rank"), 5);
        Due.is("wits", seen(x, "wits"), 2);
        Due.is("eyes of the street in which it is", seen(x, "eyes"), 8);
        Due.is("known", seen(x, "known"), 29);
        Due.is("purse", seen(x, "purse"), 77);
        Due.is("hour", seen(x, "hour"), 2);
        Due.is("street", seen(x, "street"), 4);
        Due.is("others out there", seen(x, "others"), 2);
        Due.is("others of another", x.of(2, 7), 2);
        Due.is("others of one who lies there", x.of(3, 7), 3);
        Due.is("day", seen(x, "day"), 2);
        for (String word : new String[] {"seen", "costs", "gains", "when", "or", "not", "alias", "from", "on"}) {
            Due.fault(x, 0, "seen " + word + ";", 1, 5);
        }
    }

    private static void openOnes() {
        AliasHouse x = Due.house();
        Due.is("8 (", holds(x, times(8, "(") + "1=1" + times(8, ")")), true);
        Due.fault(x, 0, "seen 1 when " + times(9, "(") + "1=1" + times(9, ")") + ";", 3, 20);
        Due.is("8 not", holds(x, times(8, "not ") + "1=1"), true);
        Due.is("7 not", holds(x, times(7, "not ") + "1=1"), false);
        Due.fault(x, 0, "seen 1 when " + times(9, "not ") + "1=1;", 3, 44);
        Due.is("4 not (", holds(x, times(4, "not(") + "1=1" + times(4, ")")), true);
        Due.fault(x, 0, "seen 1 when " + times(4, "not(") + "not 1=1" + times(4, ")") + ";", 3, 28);
        Due.fault(x, 0, "seen 1 when " + times(4, "not(") + "(1=1)" + times(4, ")") + ";", 3, 28);
        Due.is("closed ones are not open", holds(x, times(9, "(1=1) and ") + "not 1=2 and not 1=2 and 1=1"), true);
        Due.is("closed nots are not open", holds(x, times(12, "not 1=2 and ") + "1=1"), true);
        Due.fault(x, 0, "seen 1 when " + times(8, "(") + "1=1" + times(7, ")") + ";", 1, 30);
        Due.fault(x, 0, "seen 1 when (1=1));", 1, 17);
        Due.fault(x, 0, "seen 1 when " + times(8, "(") + "x", 1, 20);
    }

    private static void lawFaults() {
        AliasHouse x = Due.house();
        Due.fault(x, 0, "seen", 1, 4);
        Due.fault(x, 0, "seen   ", 1, 7);
        Due.fault(x, 0, "seen 1", 1, 6);
        Due.fault(x, 0, "seen 1 \n", 1, 8);
        Due.fault(x, 0, "seen;", 1, 4);
        Due.fault(x, 0, "rank 1;", 1, 0);
        Due.fault(x, 0, "5;", 1, 0);
        Due.fault(x, 0, ";", 1, 0);
        Due.fault(x, 0, "seen 1;;", 1, 7);
        Due.fault(x, 0, "seen 1 when;", 1, 11);
        Due.fault(x, 0, "seen 1 when rank;", 1, 16);
        Due.fault(x, 0, "seen 1 when rank=;", 1, 17);
        Due.fault(x, 0, "seen 1 when rank=1=1;", 1, 18);
        Due.fault(x, 0, "seen 1 when rank<=1;", 1, 17);
        Due.fault(x, 0, "seen 1 when rank=1 and;", 1, 22);
        Due.fault(x, 0, "seen 1 when rank=1 or or 1=1;", 1, 22);
        Due.fault(x, 0, "seen 1 when rank=1 not 1=1;", 1, 19);
        Due.fault(x, 0, "seen 1 when not;", 1, 15);
        Due.fault(x, 0, "seen 1 when ();", 1, 13);
        Due.fault(x, 0, "seen 1 when (rank)=5;", 1, 17);
        Due.fault(x, 0, "seen 1 and 1=1;", 1, 7);
        Due.fault(x, 0, "seen 1 = 1;", 1, 7);
        Due.fault(x, 0, "seen 1 when 1=1 when 1=1;", 1, 16);
        Due.fault(x, 0, "seen 1/0 x", 2, 7);
        Due.fault(x, 0, "seen x 1/0", 1, 5);
    }

    private static void shares() {
        AliasHouse x = Due.house();
        Due.lines(x, 1, "alias 2 from 0 to 23 in 9;alias 0from 23to 23in 0 ;", 2);
        Due.is("lines", x.look(11), 2);
        Due.fault(x, 1, "alias 3 from 0 to 0 in 0;", 2, 6);
        Due.fault(x, 1, "alias 0 from 24 to 24 in 0;", 2, 13);
        Due.fault(x, 1, "alias 0 from 5 to 4 in 0;", 2, 18);
        Due.fault(x, 1, "alias 0 from 5 to 24 in 0;", 2, 18);
        Due.fault(x, 1, "alias 0 from 5 to 5 in 10;", 2, 23);
        Due.fault(x, 1, "alias rank from 5 to 5 in 1;", 1, 6);
        Due.fault(x, 1, "alias 0 5 to 5 in 1;", 1, 8);
        Due.fault(x, 1, "alias 0 from to 5 in 1;", 1, 13);
        Due.fault(x, 1, "alias 0 from 5 5 in 1;", 1, 15);
        Due.fault(x, 1, "alias 0 from 5 to in 1;", 1, 18);
        Due.fault(x, 1, "alias 0 from 5 to 5 1;", 1, 20);
        Due.fault(x, 1, "alias 0 from 5 to 5 in;", 1, 22);
        Due.fault(x, 1, "alias 0 from 5 to 5 in 1", 1, 24);
        Due.fault(x, 1, "alias 0 from 5 to 5 in 1 alias", 1, 25);
        Due.fault(x, 1, "seen 1;", 1, 0);
        Due.fault(x, 1, "alias alias 0 from 5 to 5 in 1;", 1, 6);
        Due.fault(x, 1, "alias 0 alias 0 from 5 to 5 in 1;", 1, 8);
        Due.fault(x, 1, "alias 0 from alias 0 from 5 to 5 in 1;", 1, 13);
        Due.fault(x, 1, "alias 0 from 5 alias 0 from 5 to 5 in 1;", 1, 15);
        Due.fault(x, 1, "alias 0 from 5 to alias 0 from 5 to 5 in 1;", 1, 18);
        Due.fault(x, 1, "alias 0 from 5 to 5 alias 0 from 5 to 5 in 1;", 1, 20);
        Due.fault(x, 1, "alias 0 from 5 to 5 in alias 0 from 5 to 5 in 1;", 1, 23);
        Due.fault(new AliasHouse(), 1, "alias 0 from 0 to 0 in 0;", 2, 6);
    }

    private static void diary() {
        AliasHouse x = Due.house();
        Due.lines(x, 2, "on 0 at 0 walk 2 9; on 999 at 23 give 1 999; on 1 at 1 eyes 9 9; on 1 at 1 lie 2;", 4);
        Due.is("lines", x.look(12), 4);
        Due.lines(x, 2, "on 0 at 0 give 0 1; on 0 at 0 eyes 0 0;", 2);
        Due.fault(x, 2, "on 1000 at 0 lie 0;", 2, 3);
        Due.fault(x, 2, "on 1 at 24 lie 0;", 2, 8);
        Due.fault(x, 2, "on 1 at 2 lie 3;", 2, 14);
        Due.fault(x, 2, "on 1 at 2 lie 0 0;", 1, 16);
        Due.fault(x, 2, "on 1 at 2 walk 3 0;", 2, 15);
        Due.fault(x, 2, "on 1 at 2 walk 0 10;", 2, 17);
        Due.fault(x, 2, "on 1 at 2 walk 0;", 1, 16);
        Due.fault(x, 2, "on 1 at 2 give 2 1;", 2, 15);
        Due.fault(x, 2, "on 1 at 2 give 0 0;", 2, 17);
        Due.fault(x, 2, "on 1 at 2 give 0 1000;", 2, 17);
        Due.fault(x, 2, "on 1 at 2 eyes 10 0;", 2, 15);
        Due.fault(x, 2, "on 1 at 2 eyes 0 10;", 2, 17);
        Due.fault(x, 2, "on 1 at 2;", 1, 9);
        Due.fault(x, 2, "on 1 at 2 on 1;", 1, 10);
        Due.fault(x, 2, "on 1 2;", 1, 5);
        Due.fault(x, 2, "on at 2;", 1, 3);
        Due.fault(x, 2, "on 1 at lie;", 1, 8);
        Due.fault(x, 2, "at 1;", 1, 0);
        Due.fault(x, 2, "on on 1 at 2 lie 0;", 1, 3);
        Due.fault(x, 2, "on 1 on 1 at 2 lie 0;", 1, 5);
        Due.fault(x, 2, "on 1 at on 1 at 2 lie 0;", 1, 8);
        Due.fault(x, 2, "on 1 at 2 on 1 at 2 lie 0;", 1, 10);
        Due.fault(x, 2, "on 1 at 2 lie on 1 at 2 lie 0;", 1, 14);
        Due.fault(x, 2, "on 1 at 2 walk 0 on 1 at 2 lie 0;", 1, 17);
        Due.fault(x, 2, "on 1 at 2 lie 0 on 1 at 2 lie 0;", 1, 16);
        Due.fault(x, 2, "on 1 at 2 lie 0", 1, 15);
    }

    private static void streets() {
        AliasHouse x = Due.house();
        Due.lines(x, 3, "street 0 by 9; street 9 by 0;", 2);
        Due.is("lines", x.look(13), 2);
        Due.fault(x, 3, "street 10 by 1;", 2, 7);
        Due.fault(x, 3, "street 1 by 10;", 2, 12);
        Due.fault(x, 3, "street 1 by 1;", 2, 12);
        Due.fault(x, 3, "street 1 by 01;", 2, 12);
        Due.fault(x, 3, "street 1 1;", 1, 9);
        Due.fault(x, 3, "street by 1;", 1, 7);
        Due.fault(x, 3, "street 1 by;", 1, 11);
        Due.fault(x, 3, "street 1 by 2", 1, 13);
        Due.fault(x, 3, "by 2", 1, 0);
        Due.fault(x, 3, "street street 1 by 2;", 1, 7);
        Due.fault(x, 3, "street 1 street 1 by 2;", 1, 9);
        Due.fault(x, 3, "street 1 by street 1 by 2;", 1, 12);
        Due.fault(x, 3, "street 1 by 2 street 1 by 2;", 1, 14);
    }

    private static void fullTape() {
        AliasHouse x = Due.house();
        // a law of 400 bytes: more than one of them in a row must have room
        String sum = "seen 1" + times(196, "+1") + ";";
        Due.is("bytes", sum.length(), 399);
        for (int i = 0; i < 3; i++) {
            Due.lines(x, 0, sum + " ", 1);
            Due.is("197", x.of(0, 7), 197);
        }
        Due.fault(x, 0, sum.substring(0, 398) + "+1", 1, 400);
        Due.fault(x, 0, times(400, ";"), 1, 0);
        Due.fault(x, 0, times(400, "a"), 1, 0);
        Due.fault(x, 0, times(400, "1"), 1, 0);
        Due.lines(x, 0, times(400, " "), 0);
        Due.lines(x, 0, times(12, "seen 1+1+1+1+1+1 when 1=1or 1=1;"), 12);
        Due.is("6", x.of(0, 7), 6);
    }

    private static void sixteenLines() {
        AliasHouse x = Due.house();
        String[] lines = {"gains 1;", "alias 0from 0to 0in 0;", "on 0at 0lie 0;", "street 0 by 1;"};
        // the 17th line is a fault at its keyword, unless that can't stand there at all
        for (int k = 0; k < 4; k++) {
            String sixteen = times(16, lines[k]);
            Due.lines(x, k, sixteen, 16);
            Due.is("look", x.look(10 + k), 16);
            Due.fault(x, k, sixteen + lines[k].substring(0, 8), 3, sixteen.length());
            Due.fault(x, k, sixteen + " " + lines[k].split("[^a-z]")[0], 3, sixteen.length() + 1);
            Due.fault(x, k, sixteen + "rank", 1, sixteen.length());
            Due.fault(x, k, sixteen + ";", 1, sixteen.length());
            Due.is("look", x.look(10 + k), 16);
        }
    }
}
