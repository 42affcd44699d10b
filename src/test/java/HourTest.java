/** Promises 7, 16 and 17: what an hour does, step by step, and what is told of hours in thought. */
final class HourTest {
    private HourTest() {
    }

    public static void main(String[] args) {
        bounds();
        lastDay();
        diary();
        sharesOfTheDay();
        cousins();
        seenByDraws();
        seenWithAnother();
        askedOneByOne();
        earning();
        strikingOff();
        midnight();
        orderOfAnHour();
        goes();
        keeps();
        thoughtLeavesNothing();
        Due.finish("HourTest");
    }

    private static void bounds() {
        AliasHouse x = Due.house();
        for (int n : new int[] {-1, 0, 61, Integer.MAX_VALUE, Integer.MIN_VALUE}) {
            Due.is("hours(" + n + ")", x.hours(n), -1);
        }
        Due.is("nothing done", x.look(5), 0);
        Due.is("nothing to undo", x.look(14), 0);
        Due.is("hours(1)", x.hours(1), 0);
        Due.is("hour", x.look(5), 1);
        Due.is("hours(60)", x.hours(60), 0);
        Due.is("day", x.look(6), 2);
        Due.is("hour", x.look(5), 13);
    }

    private static void lastDay() {
        AliasHouse x = new AliasHouse();
        for (int i = 0; i < 396; i++) {
            Due.is("hours(60)", x.hours(60), 0);
        }
        Due.is("day 990", x.look(6), 990);
        Due.is("hour 0", x.look(5), 0);
        Due.is("to day 991", x.hours(24), -1);
        Due.is("60", x.hours(60), -1);
        Due.is("nothing done", x.look(5), 0);
        Due.is("to hour 23", x.hours(23), 0);
        Due.is("hour 23", x.look(5), 23);
        Due.is("none more", x.hours(1), -1);
        Due.is("still in thought", x.goes(60, 1), 0);
        x.undo();
        Due.is("one more again", x.hours(1), 0);
        Due.is("but no two", x.hours(2), -1);
    }

    private static void diary() {
        AliasHouse x = Due.house();
        Due.lines(x, 2, "on 0 at 1 walk 0 5; on 0 at 1 walk 0 6; on 0 at 1 give 1 7; on 0 at 1 eyes 8 3; on 1 at 1 eyes 8 4; on 0 at 2 lie 0;", 6);
        Due.lines(x, 0, "seen 0; costs 0; gains 0;", 3);
        x.hours(1);
        Due.is("not yet", x.of(0, 4), 0);
        Due.is("not yet", x.street(8, 0), 0);
        x.hours(1);
        Due.is("out", x.of(0, 4), 1);
        Due.is("the later line", x.of(0, 3), 6);
        Due.is("given", x.who(1, 1), 12);
        Due.is("eyes", x.street(8, 0), 3);
        x.hours(1);
        Due.is("lies", x.of(0, 4), 0);
        Due.is("home", x.of(0, 3), 1);
        x.hours(22);
        Due.is("day 1 at 1 not yet", x.street(8, 0), 3);
        x.hours(1);
        Due.is("day 1 at 1", x.street(8, 0), 4);
        Due.is("given once", x.who(1, 1), 12);
        eyesOfEachStreet();
        fullPurse();
        struckOnesDoNotWalk();
    }

    private static void eyesOfEachStreet() {
        AliasHouse x = new AliasHouse();
        StringBuilder lines = new StringBuilder();
        for (int s = 0; s < 10; s++) {
            lines.append("on 0 at 0 eyes ").append(s).append(' ').append(1 + s % 9).append(';');
        }
        Due.lines(x, 2, lines.toString(), 10);
        x.hours(1);
        for (int s = 0; s < 10; s++) {
            Due.is("eyes", x.street(s, 0), 1 + s % 9);
        }
    }

    private static void fullPurse() {
        AliasHouse x = Due.house();
        x.set(2, 0, 9500);
        Due.lines(x, 2, "on 0 at 0 give 0 499; on 0 at 1 give 0 1;", 2);
        x.hours(1);
        Due.is("9999", x.who(0, 1), 9999);
        x.hours(1);
        Due.is("9999 at most", x.who(0, 1), 9999);
    }

    private static void struckOnesDoNotWalk() {
        AliasHouse x = Due.house();
        x.set(4, 0, 51);
        Due.lines(x, 2, "on 0 at 0 walk 0 6; on 0 at 1 walk 0 6; on 0 at 1 lie 0;", 3);
        Due.lines(x, 1, "alias 0 from 2 to 3 in 4;", 1);
        Due.is("struck", x.hours(1), 1);
        Due.is("home", x.of(0, 3), 1);
        x.hours(2);
        Due.is("by no diary and no share", x.of(0, 4), 0);
        Due.is("home", x.of(0, 3), 1);
    }

    private static void sharesOfTheDay() {
        AliasHouse x = Due.house();
        Due.lines(x, 0, "seen 0; costs 0; gains 0;", 3);
        Due.lines(x, 1, "alias 0 from 2 to 4 in 7; alias 0 from 4 to 5 in 8; alias 2 from 0 to 0 in 3;", 3);
        x.act(0, 0, 9);
        x.act(0, 1, 9);
        int[] street = {1, 1, 7, 7, 7, 8, 1, 1};
        for (int hour = 0; hour < street.length; hour++) {
            x.hours(1);
            Due.is("in at " + hour, x.of(0, 3), street[hour]);
            Due.is("out at " + hour, x.of(0, 4), hour >= 2 && hour <= 5 ? 1 : 0);
            Due.is("without lines as it is", x.of(1, 3), 9);
            Due.is("2 out at " + hour, x.of(2, 4), hour == 0 ? 1 : 0);
        }
    }

    private static void cousins() {
        AliasHouse x = new AliasHouse();
        x.person(0, 3);
        x.person(0, 9);
        int[] ranks = {4, 8, 8, 1, 9, 8};
        for (int a = 0; a < 6; a++) {
            x.alias(a == 4 ? 1 : 0, ranks[a], 0);
        }
        Due.lines(x, 0, "seen 0; costs 0; gains 0;", 3);
        for (int a = 0; a < 6; a++) {
            x.act(0, a, a + 1);
        }
        x.hours(1);
        int[] sent = {0, 2, 3, 5};
        Due.is("cousins", x.look(3), 4);
        Due.is("lines", x.look(8), 4);
        for (int i = 0; i < 4; i++) {
            Due.is("a cousin", x.book(i, 2), 2);
            Due.is("for whom", x.book(i, 3), sent[i]);
            Due.is("where", x.book(i, 4), sent[i] + 1);
        }
        Due.is("purse", x.who(0, 1), 0);
        Due.is("debt", x.look(2), 1);
        Due.is("one goes himself", x.who(1, 1), 9);
        x.act(1, 1, 0);
        x.hours(1);
        Due.is("line 4: 2 goes himself", x.book(4, 3), 0);
        Due.is("line 5", x.book(5, 3), 3);
        Due.is("line 6", x.book(6, 3), 5);
        Due.is("debt", x.look(2), 4);
    }

    private static void seenByDraws() {
        AliasHouse x = Due.house();
        // from STATE 0 the draws of 1000 are 563, 577, 494, 947
        Due.lines(x, 0, "seen 563; costs 0; gains 0;", 3);
        x.act(0, 0, 4);
        x.hours(1);
        Due.is("563 is not below 563", x.of(0, 5), 0);
        Due.is("state", x.look(9), 1013904223);
        x.state(0);
        Due.lines(x, 0, "seen 564; costs 0; gains 0;", 3);
        x.hours(1);
        Due.is("563 is below 564", x.of(0, 5), 10);
        Due.is("seen", x.book(0, 2), 0);
        Due.is("who", x.book(0, 3), 0);
        Due.is("how much", x.book(0, 4), 10);
        x.hours(1);
        Due.is("577 is not below 564", x.of(0, 5), 10);
        x.hours(1);
        Due.is("494 is", x.of(0, 5), 20);
        Due.is("state", x.look(9), -775096599);
        x.set(4, 0, 95);
        Due.lines(x, 0, "seen 1000; costs 0; gains 0;", 3);
        x.hours(1);
        Due.is("99 at most", x.of(0, 5), 99);
        Due.is("who is in is not seen", x.of(1, 5), 0);
        int state = x.look(9);
        Due.lines(x, 0, "seen 0-5;", 1);
        x.act(0, 1, 5);
        x.hours(2);
        Due.is("not above 0: no draw", x.look(9), state);
        Due.lines(x, 0, "seen 1;", 1);
        x.hours(1);
        Due.is("one draw", x.look(9) == state, false);
    }

    private static void seenWithAnother() {
        AliasHouse x = Due.house();
        Due.lines(x, 0, "seen 1000; costs 0; gains 0;", 3);
        x.act(0, 0, 4);
        x.act(0, 2, 4);
        x.hours(1);
        Due.is("another of another person", x.of(0, 5), 10);
        x.act(0, 1, 5);
        x.hours(1);
        Due.is("another elsewhere", x.of(0, 5), 20);
        x.act(0, 1, 4);
        x.hours(1);
        Due.is("30 more instead", x.of(1, 5), 40);
        Due.is("50 is not above 50", x.of(0, 5), 50);
        Due.is("not struck", x.of(0, 6), 0);
        Due.is("the other person", x.of(2, 5), 30);
        Due.is("1 in the book", x.book(x.look(8) - 3, 2), 1);
        Due.is("who", x.book(x.look(8) - 3, 3), 0);
        Due.is("how much", x.book(x.look(8) - 3, 4), 50);
        Due.is("0 in the book", x.book(x.look(8) - 1, 2), 0);
        x.set(4, 0, 80);
        Due.is("all three", x.hours(1), 2);
        Due.is("99 at most", x.of(0, 5), 99);
        lyingAtHomeIsNotThere();
    }

    private static void lyingAtHomeIsNotThere() {
        AliasHouse x = Due.house();
        Due.lines(x, 0, "seen 1000;", 1);
        x.act(0, 0, 2);
        x.hours(1);
        Due.is("1 lies in street 2", x.of(0, 5), 10);
    }

    private static void askedOneByOne() {
        AliasHouse x = Due.house();
        // the chance of 2 stands on what it knows of itself; the draws are 563, 577, 494
        Due.lines(x, 0, "seen 564 when rank=5; seen 577 when rank=7; seen 495; costs 0; gains 0;", 5);
        x.act(0, 2, 6);
        x.act(0, 1, 5);
        x.act(0, 0, 4);
        x.hours(1);
        Due.is("0", x.of(0, 5), 10);
        Due.is("1", x.of(1, 5), 0);
        Due.is("2", x.of(2, 5), 10);
    }

    private static void earning() {
        AliasHouse x = Due.house();
        Due.lines(x, 0, "seen 0; costs 4; gains 3 when rank=2; gains 50 when rank=5; gains 0;", 5);
        x.act(0, 0, 4);
        x.hours(1);
        Due.is("gains less costs", x.who(0, 1), 146);
        x.set(2, 0, 9990);
        x.hours(1);
        Due.is("9999 at most, then the costs", x.who(0, 1), 9995);
        x.act(1, 0, 0);
        x.act(0, 2, 4);
        x.set(2, 1, 0);
        x.hours(1);
        Due.is("none left", x.who(1, 1), 0);
        Due.is("one is missing", x.look(2), 1);
        x.hours(3);
        Due.is("four are missing", x.look(2), 4);
        costsAreAskedBehindGains();
    }

    private static void costsAreAskedBehindGains() {
        AliasHouse x = Due.house();
        Due.lines(x, 0, "seen 0; gains 10; costs 1 when purse>14; costs 7;", 4);
        x.act(0, 2, 4);
        x.hours(1);
        Due.is("5 and 10 less 1", x.who(1, 1), 14);
    }

    private static void strikingOff() {
        AliasHouse x = Due.house();
        Due.lines(x, 0, "seen 0; costs 0; gains 9;", 3);
        x.set(4, 0, 50);
        x.set(4, 1, 51);
        x.set(4, 2, 99);
        x.act(0, 1, 8);
        Due.is("two", x.hours(1), 2);
        Due.is("struck", x.look(7), 6);
        Due.is("it has earned yet", x.who(0, 1), 109);
        Due.is("not out", x.of(1, 4), 0);
        Due.is("home", x.of(1, 3), 2);
        Due.is("seen stays", x.of(1, 5), 51);
        int[] line = {0, 0, 3, 1, 51};
        for (int what = 0; what < 5; what++) {
            Due.is("book", x.book(0, what), line[what]);
        }
        Due.is("book", x.book(1, 3), 2);
        Due.is("book", x.book(1, 4), 99);
        Due.is("none twice", x.hours(1), 0);
        Due.is("caught", x.look(4), 2);
        x.set(4, 0, 51);
        Due.is("one more", x.hours(5), 1);
        Due.is("caught", x.look(4), 3);
        x.set(4, 0, 0);
        x.hours(1);
        Due.is("struck for good", x.of(0, 6), 1);
    }

    private static void midnight() {
        AliasHouse x = Due.house();
        x.set(4, 0, 50);
        x.set(4, 1, 1);
        x.set(4, 2, 90);
        x.hours(23);
        Due.is("hour 23", x.look(5), 23);
        Due.is("not by the hour", x.of(0, 5), 50);
        x.hours(1);
        Due.is("hour 0", x.look(5), 0);
        Due.is("day 1", x.look(6), 1);
        Due.is("2 less", x.of(0, 5), 48);
        Due.is("0 at least", x.of(1, 5), 0);
        Due.is("the struck one too", x.of(2, 5), 88);
        x.hours(48);
        Due.is("day 3", x.look(6), 3);
        Due.is("4 less", x.of(0, 5), 44);
    }

    private static void orderOfAnHour() {
        AliasHouse x = Due.house();
        // the diary gives before cousins are paid, and eyes are changed before anyone is seen
        x.set(2, 0, 0);
        Due.lines(x, 0, "seen eyes*500; costs 0; gains 0;", 3);
        Due.lines(x, 2, "on 0 at 0 give 0 1; on 0 at 0 eyes 4 2; on 0 at 0 walk 0 4;", 3);
        Due.lines(x, 1, "alias 1 from 0 to 0 in 4;", 1);
        x.hours(1);
        Due.is("purse", x.who(0, 1), 0);
        Due.is("no debt", x.look(2), 0);
        Due.is("cousin first", x.book(0, 2), 2);
        Due.is("then seen", x.book(1, 2), 1);
        Due.is("30", x.of(0, 5), 30);
        Due.is("30", x.of(1, 5), 30);
        // a share comes behind the diary
        AliasHouse y = Due.house();
        Due.lines(y, 2, "on 0 at 0 walk 0 4; on 0 at 0 lie 1;", 2);
        Due.lines(y, 1, "alias 0 from 5 to 6 in 4; alias 1 from 0 to 0 in 9;", 2);
        y.hours(1);
        Due.is("lies by its shares", y.of(0, 4), 0);
        Due.is("out by its shares", y.of(1, 3), 9);
    }

    private static void goes() {
        AliasHouse x = Due.house();
        Due.is("n 0", x.goes(0, 0), -1);
        Due.is("n 61", x.goes(61, 0), -1);
        Due.is("n -1", x.goes(-1, 0), -1);
        Due.is("what -1", x.goes(1, -1), -1);
        Due.is("what 4", x.goes(1, 4), -1);
        Due.lines(x, 0, "seen 500 when rank=5; seen 499; costs 3; gains 2;", 4);
        x.act(0, 0, 3);
        x.act(0, 1, 4);
        x.act(0, 2, 4);
        Due.is("purses of all", x.goes(1, 0), 105 - 1 - 3);
        Due.is("cousins", x.goes(1, 3), 1);
        Due.is("none caught in 5", x.goes(5, 2), 0);
        Due.is("one in 6", x.goes(6, 2), 1);
        Due.is("one in 60", x.goes(60, 2), 1);
        Due.is("cousins in 6", x.goes(6, 3), 6);
        Due.is("cousins in 60", x.goes(60, 3), 6);
        Due.is("debt in 5", x.goes(5, 1), 0);
        Due.is("debt in 6", x.goes(6, 1), 1);
        Due.is("debt in 60", x.goes(60, 1), 55);
        Due.is("purses in 60", x.goes(60, 0), 100 - 6 * 3 - 54);
    }

    private static void keeps() {
        AliasHouse x = Due.house();
        Due.is("alias -1", x.keeps(-1), -1);
        Due.is("alias 3", x.keeps(3), -1);
        Due.is("never", x.keeps(0), -1);
        Due.lines(x, 0, "seen 1000 when day=4; seen 0;", 2);
        x.act(0, 0, 3);
        x.act(0, 2, 3);
        x.set(4, 0, 28);
        // 20 when day 4 comes, behind 96 hours; then 10 more each hour
        Due.is("100", x.keeps(0), 100);
        x.set(4, 0, 19);
        Due.is("51 just then", x.keeps(0), 100);
        x.set(4, 0, 18);
        Due.is("more than 100", x.keeps(0), -1);
        Due.is("more than 100", x.keeps(1), -1);
        x.set(4, 0, 38);
        Due.is("99", x.keeps(0), 99);
        x.set(4, 0, 51);
        Due.is("1", x.keeps(0), 1);
        x.hours(1);
        Due.is("0", x.keeps(0), 0);
    }

    private static void thoughtLeavesNothing() {
        AliasHouse x = Due.house();
        Due.lines(x, 0, "seen 900;", 1);
        Due.lines(x, 2, "on 0 at 0 eyes 3 4;", 1);
        x.act(0, 0, 3);
        x.act(0, 1, 3);
        x.goes(60, 0);
        x.keeps(0);
        Due.is("state", x.look(9), 0);
        Due.is("hour", x.look(5), 0);
        Due.is("day", x.look(6), 0);
        Due.is("book", x.look(8), 0);
        Due.is("cousins", x.look(3), 0);
        Due.is("caught", x.look(4), 0);
        Due.is("debt", x.look(2), 0);
        Due.is("undo", x.look(14), 2);
        Due.is("seen", x.of(0, 5), 0);
        Due.is("struck", x.look(7), 0);
        Due.is("purse", x.who(0, 1), 100);
        Due.is("eyes", x.street(3, 0), 0);
        Due.is("out", x.who(0, 3), 3);
    }
}
