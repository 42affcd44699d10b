/** The edges that the document names of AN HOUR, THE BOOK, GOES and KEPT: Terms 3 and 4; promises 7, 15 to 17. */
final class EdgeHourTest {
    private static final int MIN = Integer.MIN_VALUE;
    private static final int MAX = Integer.MAX_VALUE;
    private static final String FREE = "seen 0;costs 0;gains 0;";
    private static final String SEEN = "seen 1000;costs 0;gains 0;";

    private EdgeHourTest() {
    }

    public static void main(String[] args) {
        diaryAtItsHour();
        diaryLineByLine();
        diaryOfStruckOnes();
        diaryGives();
        sharesBothHours();
        sharesFirstLine();
        sharesOfStruckOnes();
        sharesWithoutLines();
        sharesBehindTheDiary();
        cousinsByRank();
        cousinsArePaid();
        cousinsOnTheirOwn();
        seenAbove0();
        seenTen();
        seenThirty();
        seenInTurn();
        noDraws();
        gainsThenCosts();
        costsFromAnEmptyPurse();
        oneByOneFromOnePurse();
        struckAbove50();
        struckWithoutBeingOut();
        turnOfTheDay();
        struckBeforeTheDayTurns();
        bookOfEachKind();
        bookIsFull();
        fullBookGoesBack();
        goesBounds();
        goesSeenBy500();
        goesLeavesNothing();
        goesBeyondTheLastDay();
        keepsBounds();
        keepsAHundred();
        keepsBySeeing();
        Due.finish("EdgeHourTest");
    }

    private static AliasHouse house(String law) {
        AliasHouse x = Due.house();
        Due.text(x, 0, law);
        return x;
    }

    /** One person with that purse, and aliases with these ranks, all out in street 9. */
    private static AliasHouse ranks(int purse, int... ranks) {
        AliasHouse x = new AliasHouse();
        x.person(0, purse);
        for (int a = 0; a < ranks.length; a++) {
            x.alias(0, ranks[a], a % 9);
            x.act(0, a, 9);
        }
        Due.text(x, 0, FREE);
        return x;
    }

    private static void diaryAtItsHour() {
        Due.says("Promise 7, Terms 3 (a)", "Line by line of DIARY for it");
        AliasHouse x = house(FREE);
        Due.lines(x, 2, "on 0 at 0 eyes 0 1;on 0 at 23 eyes 0 2;on 1 at 0 eyes 0 3;on 1 at 23 eyes 0 4;on 2 at 0 eyes 0 5;", 5);
        int[] hours = {1, 22, 1, 1, 22, 1, 1, 60};
        int[] eyes = {1, 1, 2, 3, 3, 4, 5, 5};
        Due.is("at first", x.street(0, 0), 0);
        for (int i = 0; i < hours.length; i++) {
            x.hours(hours[i]);
            Due.is("EYES, " + i, x.street(0, 0), eyes[i]);
        }
    }

    private static void diaryLineByLine() {
        Due.says("Promise 7, Terms 3 (a)", "walk: an ALIAS not STRUCK is OUT IN that STREET; lie: not OUT, IN its HOME");
        AliasHouse x = house(FREE);
        Due.lines(x, 2, "on 0 at 0 walk 0 8;on 0 at 0 lie 0;on 0 at 0 lie 1;on 0 at 0 walk 1 8;on 0 at 0 walk 1 7;", 5);
        x.act(0, 0, 5);
        x.hours(1);
        Due.is("walked, then lies", x.of(0, 4), 0);
        Due.is("HOME", x.of(0, 3), 1);
        Due.is("lay, then walked", x.of(1, 4), 1);
        Due.is("the last STREET", x.of(1, 3), 7);
        Due.is("HOME as before", x.of(1, 2), 2);
        Due.lines(x, 2, "on 0 at 1 eyes 3 9;on 0 at 1 eyes 3 0;on 0 at 1 eyes 4 0;on 0 at 1 eyes 4 9;", 4);
        x.hours(1);
        Due.is("9, then 0", x.street(3, 0), 0);
        Due.is("0, then 9", x.street(4, 0), 9);
    }

    private static void diaryOfStruckOnes() {
        Due.says("Promise 7, Terms 3 (a)", "walk: an ALIAS not STRUCK");
        AliasHouse x = house(FREE);
        x.set(4, 0, 51);
        x.hours(1);
        Due.lines(x, 2, "on 0 at 1 walk 0 6;on 0 at 1 walk 1 6;on 0 at 2 lie 0;", 3);
        x.hours(1);
        Due.is("STRUCK: not OUT", x.of(0, 4), 0);
        Due.is("HOME", x.of(0, 3), 1);
        Due.is("not STRUCK: OUT", x.of(1, 4), 1);
        x.hours(1);
        Due.is("STRUCK: HOME", x.of(0, 3), 1);
    }

    private static void diaryGives() {
        Due.says("Promise 7, Terms 3 (a)", "give: PURSE N more (9999 at most)");
        int[][] cases = {{0, 1, 1}, {9998, 1, 9999}, {9999, 1, 9999}, {9000, 999, 9999}, {9001, 999, 9999}, {8999, 999, 9998}};
        for (int[] c : cases) {
            AliasHouse x = house(FREE);
            x.set(2, 1, c[0]);
            Due.text(x, 2, "on 0 at 0 give 1 " + c[1] + ";");
            x.hours(1);
            Due.is(c[0] + " and " + c[1], x.who(1, 1), c[2]);
            Due.is("the other as before", x.who(0, 1), 100);
        }
        AliasHouse x = house(FREE);
        x.set(2, 1, 9500);
        Due.text(x, 2, "on 0 at 0 give 1 999;".repeat(16));
        x.hours(1);
        Due.is("16 times", x.who(1, 1), 9999);
    }

    private static void sharesBothHours() {
        Due.says("Promise 7, Terms 3 (b)", "the first line of it in whose hours HOUR is: it is OUT IN that STREET; (both too)");
        AliasHouse x = house(FREE);
        Due.lines(x, 1, "alias 0 from 2 to 4 in 8;alias 1 from 0 to 0 in 8;alias 2 from 23 to 23 in 8;", 3);
        int out0 = 0;
        for (int hour = 0; hour < 26; hour++) {
            x.hours(1);
            boolean in0 = hour >= 2 && hour <= 4;
            Due.is("alias 0 in hour " + hour, x.of(0, 4), in0 ? 1 : 0);
            Due.is("where", x.of(0, 3), in0 ? 8 : 1);
            Due.is("alias 1 in hour " + hour, x.of(1, 4), hour == 0 || hour == 24 ? 1 : 0);
            Due.is("alias 2 in hour " + hour, x.of(2, 4), hour == 23 ? 1 : 0);
            out0 += x.of(0, 4);
        }
        Due.is("three hours", out0, 3);
    }

    private static void sharesFirstLine() {
        Due.says("Promise 7, Terms 3 (b)", "the first line of it in whose hours HOUR is");
        AliasHouse x = house(FREE);
        Due.lines(x, 1, "alias 1 from 0 to 9 in 9;alias 0 from 1 to 2 in 8;alias 0 from 0 to 3 in 7;alias 0 from 0 to 5 in 6;", 4);
        int[] street = {7, 8, 8, 7, 6, 6, 1};
        for (int hour = 0; hour < street.length; hour++) {
            x.hours(1);
            Due.is("hour " + hour, x.of(0, 3), street[hour]);
            Due.is("of the other", x.of(1, 3), 9);
        }
        String line = "alias 0 from 9 to 9 in 2;";
        Due.lines(x, 1, line.repeat(15) + "alias 0 from 7 to 7 in 3;", 16);
        x.hours(1);
        Due.is("the sixteenth line", x.of(0, 3), 3);
    }

    private static void sharesOfStruckOnes() {
        Due.says("Promise 7, Terms 3 (b)", "ALIAS by ALIAS not STRUCK by SHARES");
        AliasHouse x = house(FREE);
        Due.lines(x, 1, "alias 0 from 1 to 23 in 8;alias 1 from 1 to 23 in 8;", 2);
        x.set(4, 0, 51);
        x.hours(2);
        Due.is("STRUCK", x.of(0, 4), 0);
        Due.is("HOME", x.of(0, 3), 1);
        Due.is("not STRUCK", x.of(1, 3), 8);
    }

    private static void sharesWithoutLines() {
        Due.says("Promise 7, Terms 3 (b)", "it has lines, but none now: not OUT, HOME (without lines as it is)");
        AliasHouse x = house(FREE);
        for (int a = 0; a < 3; a++) {
            x.act(0, a, 5);
        }
        Due.lines(x, 1, "alias 0 from 5 to 6 in 8;", 1);
        x.hours(1);
        Due.is("lines, but none now", x.of(0, 4), 0);
        Due.is("HOME", x.of(0, 3), 1);
        Due.is("without lines", x.of(1, 4), 1);
        Due.is("where it was", x.of(1, 3), 5);
        Due.is("without lines", x.of(2, 3), 5);
        x.act(1, 1, 0);
        x.hours(6);
        Due.is("without lines, not OUT", x.of(1, 4), 0);
        Due.is("HOUR 6 is the last", x.of(0, 4), 1);
        x.text(1);
        x.hours(1);
        Due.is("no line any more: as it is", x.of(0, 3), 8);
    }

    private static void sharesBehindTheDiary() {
        Due.says("Promise 7, Terms 3", "(a) .. DIARY; (b) .. SHARES");
        AliasHouse x = house(FREE);
        Due.lines(x, 2, "on 0 at 0 walk 0 5;on 0 at 0 lie 1;on 0 at 0 walk 2 5;", 3);
        Due.lines(x, 1, "alias 0 from 9 to 9 in 8;alias 1 from 0 to 0 in 8;", 2);
        x.hours(1);
        Due.is("walked, but has no share now", x.of(0, 4), 0);
        Due.is("lay, but has a share now", x.of(1, 3), 8);
        Due.is("walked, and has no lines", x.of(2, 3), 5);
    }

    private static void cousinsByRank() {
        Due.says("Promise 7, Terms 3 (c)", "the one with the greatest RANK (of several the least) goes himself");
        int[][] cases = {{5}, {5, 5}, {5, 6}, {6, 5}, {0, 9, 9}, {9, 0, 9}, {3, 4, 4, 2}, {0, 0, 0}};
        int[] himself = {0, 0, 1, 0, 1, 0, 1, 0};
        for (int i = 0; i < cases.length; i++) {
            AliasHouse x = ranks(100, cases[i]);
            x.hours(1);
            int others = cases[i].length - 1;
            Due.is("COUSINS", x.look(3), others);
            Due.is("lines", x.look(8), others);
            Due.is("PURSE", x.who(0, 1), 100 - others);
            for (int line = 0; line < others; line++) {
                Due.is("case " + i + ", cousin " + line, x.book(line, 3), line < himself[i] ? line : line + 1);
            }
        }
    }

    private static void cousinsArePaid() {
        Due.says("Promise 7, Terms 3 (c)", "COUSINS one more, 1 from PURSE, or, if it is 0, DEBT one more");
        for (int purse = 0; purse <= 4; purse++) {
            AliasHouse x = ranks(purse, 1, 2, 3, 4);
            x.hours(1);
            Due.is("COUSINS", x.look(3), 3);
            Due.is("PURSE of " + purse, x.who(0, 1), Math.max(0, purse - 3));
            Due.is("DEBT", x.look(2), Math.max(0, 3 - purse));
        }
        AliasHouse full = ranks(9999, new int[18]);
        full.hours(1);
        Due.is("seventeen", full.look(3), 17);
        Due.is("PURSE", full.who(0, 1), 9982);
    }

    private static void cousinsOnTheirOwn() {
        Due.says("Promise 7, Terms 3 (c)", "PERSON by PERSON: of his ALIASES OUT");
        AliasHouse x = house(FREE);
        x.act(0, 1, 1);
        x.act(0, 2, 1);
        x.hours(1);
        Due.is("one of each person: none", x.look(3), 0);
        x.act(0, 0, 7);
        x.set(2, 0, 0);
        x.hours(1);
        Due.is("the other of person 0", x.look(3), 1);
        Due.is("2 a cousin", x.book(0, 2), 2);
        Due.is("the ALIAS", x.book(0, 3), 0);
        Due.is("the STREET", x.book(0, 4), 7);
        Due.is("not from the other's PURSE", x.who(1, 1), 5);
        Due.is("DEBT", x.look(2), 1);
        x.act(1, 1, 0);
        x.hours(1);
        Due.is("one OUT again: none more", x.look(3), 1);
        // persons in their order, whatever the order of their aliases
        AliasHouse y = new AliasHouse();
        y.person(0, 9);
        y.person(0, 9);
        for (int a = 0; a < 4; a++) {
            y.alias(1 - a % 2, 5, a);
            y.act(0, a, a + 1);
        }
        y.hours(1);
        Due.is("of person 0 first", y.book(0, 3), 3);
        Due.is("its STREET", y.book(0, 4), 4);
        Due.is("then of person 1", y.book(1, 3), 2);
    }

    private static void seenAbove0() {
        Due.says("Promise 7, Terms 3 (d)", "seen is asked, is it above 0, a DRAW of 1000");
        for (String seen : new String[] {"0", "0-1", "0-9999"}) {
            AliasHouse x = house("seen " + seen + ";");
            x.act(0, 0, 3);
            x.state(77);
            x.hours(1);
            Due.is("seen " + seen + ": no DRAW", x.look(9), 77);
            Due.is("SEEN", x.of(0, 5), 0);
        }
        AliasHouse x = house("seen 1;");
        x.act(0, 0, 3);
        x.state(0);
        x.hours(1);
        Due.is("seen 1: one DRAW", x.look(9), 1013904223);
        Due.is("563 is not below 1", x.of(0, 5), 0);
        x.act(1, 0, 0);
        x.hours(1);
        Due.is("not OUT: no DRAW", x.look(9), 1013904223);
        AliasHouse y = house("seen 564;");
        y.act(0, 0, 3);
        y.hours(1);
        Due.is("563 is below 564", y.of(0, 5), 10);
        AliasHouse z = house("seen 563;");
        z.act(0, 0, 3);
        z.hours(1);
        Due.is("563 is not below 563", z.of(0, 5), 0);
    }

    private static void seenTen() {
        Due.says("Promise 7, Terms 3 (d)", "SEEN is 10 more (99 at most)");
        int[][] cases = {{0, 10}, {40, 50}, {41, 51}, {88, 98}, {89, 99}, {90, 99}, {99, 99}};
        for (int[] c : cases) {
            AliasHouse x = house(SEEN);
            x.act(0, 0, 3);
            x.set(4, 0, c[0]);
            x.hours(1);
            Due.is("SEEN " + c[0], x.of(0, 5), c[1]);
            Due.is("0 seen", x.book(0, 2), 0);
            Due.is("the ALIAS", x.book(0, 3), 0);
            Due.is("SEEN then", x.book(0, 4), c[1]);
        }
    }

    private static void seenThirty() {
        Due.says("Promise 7, Terms 3 (d)", "is another ALIAS of the same PERSON OUT in the same STREET, 30 more instead");
        int[][] cases = {{0, 30}, {20, 50}, {21, 51}, {68, 98}, {69, 99}, {70, 99}, {99, 99}};
        for (int[] c : cases) {
            AliasHouse x = house(SEEN);
            x.act(0, 0, 3);
            x.act(0, 1, 3);
            x.set(4, 0, c[0]);
            x.hours(1);
            Due.is("SEEN " + c[0], x.of(0, 5), c[1]);
            Due.is("of the other", x.of(1, 5), 30);
            Due.is("1 seen with another", x.book(1, 2), 1);
            Due.is("SEEN then", x.book(1, 4), c[1]);
        }
        AliasHouse x = house(SEEN);
        x.act(0, 0, 2);
        x.act(0, 2, 2);
        x.hours(1);
        Due.is("who is not OUT there is none, nor one of another PERSON", x.of(0, 5), 10);
        Due.is("of the other PERSON", x.of(2, 5), 10);
        x.act(0, 1, 3);
        x.hours(1);
        Due.is("OUT in another STREET is none", x.of(0, 5), 20);
        x.act(0, 0, 3);
        x.act(0, 2, 3);
        x.hours(1);
        Due.is("OUT in the same", x.of(0, 5), 50);
        Due.is("both of them", x.of(1, 5), 40);
        Due.is("one of another PERSON", x.of(2, 5), 30);
    }

    private static void seenInTurn() {
        Due.says("Promise 7, Terms 3 (d)", "ALIAS by ALIAS OUT: seen is asked");
        // from STATE 0 the draws of 1000 are 563, 577, 494
        AliasHouse x = house("seen 564 when rank=5;seen 577 when rank=7;seen 495;costs 0;gains 0;");
        for (int a = 2; a >= 0; a--) {
            x.act(0, a, a + 3);
        }
        x.hours(1);
        Due.is("563 below 564", x.of(0, 5), 10);
        Due.is("577 below 577", x.of(1, 5), 0);
        Due.is("494 below 495", x.of(2, 5), 10);
        Due.is("three DRAWS", x.look(9), -775096599);
        // all of them are struck behind (d), so that none misses the other
        AliasHouse y = house(SEEN);
        y.act(0, 0, 3);
        y.act(0, 1, 3);
        y.set(4, 0, 60);
        y.hours(1);
        Due.is("seen with one that is struck then", y.of(1, 5), 30);
    }

    private static void noDraws() {
        Due.says("Promise 7, Terms 3 (d)", "DRAW");
        AliasHouse x = house(SEEN);
        x.hours(60);
        Due.is("none is OUT", x.look(9), 0);
        x.act(0, 0, 3);
        x.hours(6);
        Due.is("struck in the sixth hour", x.of(0, 6), 1);
        int then = x.look(9);
        x.hours(60);
        Due.is("none is OUT any more", x.look(9), then);
    }

    private static void gainsThenCosts() {
        Due.says("Promise 7, Terms 3 (e)", "gains more into PURSE (9999 at most), then costs out of it");
        int[][] cases = {{0, 5, 5, 0, 0}, {0, 5, 6, 0, 1}, {0, 6, 5, 1, 0}, {9999, 99, 0, 9999, 0}, {9999, 99, 99, 9900, 0},
            {9900, 99, 0, 9999, 0}, {9901, 99, 1, 9998, 0}, {0, 0, 99, 0, 99}, {1, 0, 1, 0, 0}, {1, 0, 2, 0, 1}};
        for (int[] c : cases) {
            AliasHouse x = house("seen 0;gains " + c[1] + ";costs " + c[2] + ";");
            x.act(0, 2, 3);
            x.set(2, 1, c[0]);
            x.hours(1);
            Due.is("PURSE of " + c[0] + ", gains " + c[1] + ", costs " + c[2], x.who(1, 1), c[3]);
            Due.is("DEBT", x.look(2), c[4]);
            Due.is("the other PURSE", x.who(0, 1), 100);
        }
    }

    private static void costsFromAnEmptyPurse() {
        Due.says("Promise 7, Terms 3 (e)", "what is missing is DEBT more");
        AliasHouse x = house("seen 0;gains 0;costs 99;");
        x.set(2, 1, 0);
        x.act(0, 2, 3);
        x.hours(60);
        Due.is("60 times 99", x.look(2), 5940);
        Due.is("PURSE", x.who(1, 1), 0);
        x.act(1, 2, 0);
        x.hours(1);
        Due.is("not OUT: no costs", x.look(2), 5940);
    }

    private static void oneByOneFromOnePurse() {
        Due.says("Promise 7, Terms 3 (e)", "ALIAS by ALIAS OUT");
        // alias 0: PURSE 0, costs 5, all of it DEBT; then alias 1: gains 10, costs 3
        AliasHouse x = house("seen 0;gains 10 when rank=7;gains 0;costs 5 when rank=5;costs 3;");
        x.set(2, 0, 1);
        x.act(0, 0, 3);
        x.act(0, 1, 4);
        x.hours(1);
        Due.is("PURSE", x.who(0, 1), 7);
        Due.is("DEBT", x.look(2), 5);
        // the word purse tells of the gains of the one before
        AliasHouse y = house("seen 0;costs 0;gains 7 when purse=110;gains 10;");
        y.act(0, 0, 3);
        y.act(0, 1, 4);
        y.set(2, 0, 101);
        y.hours(1);
        Due.is("101, 1 for a cousin, 10 and 7", y.who(0, 1), 117);
    }

    private static void struckAbove50() {
        Due.says("Promise 7, Terms 3 (f)", "not STRUCK with SEEN above 50: STRUCK, not OUT, HOME, CAUGHT one more");
        AliasHouse x = house(FREE);
        x.set(4, 0, 50);
        x.set(4, 1, 51);
        x.act(0, 0, 6);
        x.act(0, 1, 7);
        Due.is("one", x.hours(1), 1);
        Due.is("50", x.of(0, 6), 0);
        Due.is("50: OUT", x.of(0, 3), 6);
        Due.is("51", x.of(1, 6), 1);
        Due.is("51: not OUT", x.of(1, 4), 0);
        Due.is("51: HOME", x.of(1, 3), 2);
        Due.is("SEEN stays", x.of(1, 5), 51);
        Due.is("CAUGHT", x.look(4), 1);
        Due.is("not twice", x.hours(1), 0);
        Due.is("CAUGHT", x.look(4), 1);
        x.set(4, 1, 99);
        Due.is("nor with more", x.hours(1), 0);
        x.set(4, 1, 0);
        x.hours(1);
        Due.is("nor goes it back", x.of(1, 6), 1);
        x.set(4, 0, 99);
        Due.is("99", x.hours(1), 1);
        Due.is("CAUGHT", x.look(4), 2);
        Due.is("those STRUCK", x.look(7), 3);
    }

    private static void struckWithoutBeingOut() {
        Due.says("Promise 7, Terms 3 (f)", "ALIAS by ALIAS not STRUCK");
        AliasHouse x = house("seen 0;gains 9;costs 0;");
        x.set(4, 2, 51);
        x.set(4, 0, 51);
        x.act(0, 0, 6);
        Due.is("who is OUT and who is not", x.hours(1), 2);
        Due.is("has gained before", x.who(0, 1), 109);
        Due.is("0 first", x.book(0, 3), 0);
        Due.is("then 2", x.book(1, 3), 2);
        x.hours(1);
        Due.is("gains no more", x.who(0, 1), 109);
    }

    private static void turnOfTheDay() {
        Due.says("Promise 7, Terms 3 (g)", "HOUR one more; behind 23 it is 0, DAY one more, SEEN of each 2 less (0 at least)");
        AliasHouse x = house(FREE);
        int[] seen = {0, 1, 2, 3, 4, 50};
        for (int a = 3; a < 6; a++) {
            x.alias(1, 0, 0);
        }
        for (int a = 0; a < 6; a++) {
            x.set(4, a, seen[a]);
        }
        x.hours(22);
        Due.is("HOUR 22", x.look(5), 22);
        x.hours(1);
        Due.is("HOUR 23", x.look(5), 23);
        Due.is("DAY 0", x.look(6), 0);
        for (int a = 0; a < 6; a++) {
            Due.is("not yet less", x.of(a, 5), seen[a]);
        }
        x.hours(1);
        Due.is("HOUR 0", x.look(5), 0);
        Due.is("DAY 1", x.look(6), 1);
        for (int a = 0; a < 6; a++) {
            Due.is("2 less than " + seen[a], x.of(a, 5), Math.max(0, seen[a] - 2));
        }
        x.hours(1);
        Due.is("HOUR 1", x.look(5), 1);
        Due.is("once a day", x.of(5, 5), 48);
        x.hours(23);
        Due.is("DAY 2", x.look(6), 2);
        Due.is("46", x.of(5, 5), 46);
    }

    private static void struckBeforeTheDayTurns() {
        Due.says("Promise 7, Terms 3", "(f) .. SEEN above 50; (g) .. SEEN of each 2 less");
        AliasHouse x = house(FREE);
        x.hours(23);
        x.set(4, 0, 51);
        x.set(4, 1, 52);
        x.set(4, 2, 50);
        Due.is("51 and 52 are struck first", x.hours(1), 2);
        Due.is("49", x.of(0, 5), 49);
        Due.is("50", x.of(1, 5), 50);
        Due.is("48", x.of(2, 5), 48);
        Due.is("SEEN in the line", x.book(0, 4), 51);
        Due.is("its DAY", x.book(0, 0), 0);
        Due.is("its HOUR", x.book(0, 1), 23);
        x.hours(24);
        Due.is("of those STRUCK, too", x.of(0, 5), 47);
    }

    private static void line(AliasHouse x, int i, int... due) {
        for (int what = 0; what < 5; what++) {
            Due.is("book(" + i + ", " + what + ")", x.book(i, what), due[what]);
        }
    }

    private static void bookOfEachKind() {
        Due.says("Promise 15, Terms 3", "THE BOOK: DAY, HOUR, what (0 .. 4), who (the ALIAS; 4: the PERSON), how much");
        AliasHouse x = house("seen 1000;costs 9;gains 0;");
        x.hours(25);
        x.set(2, 1, 0);
        x.act(0, 0, 7);
        x.act(0, 1, 7);
        x.act(0, 2, 8);
        x.set(4, 1, 21);
        x.hours(1);
        x.act(2, 0, 0);
        line(x, 0, 1, 1, 2, 0, 7);
        line(x, 1, 1, 1, 1, 0, 30);
        line(x, 2, 1, 1, 1, 1, 51);
        line(x, 3, 1, 1, 0, 2, 10);
        line(x, 4, 1, 1, 3, 1, 51);
        line(x, 5, 1, 2, 4, 0, 9);
        Due.is("six lines", x.look(8), 6);
    }

    private static void bookIsFull() {
        Due.says("Promise 15, Terms 3", "THE BOOK (150 lines; no more then)");
        AliasHouse x = ranks(0, 1, 2, 3, 4);
        x.hours(49);
        Due.is("147", x.look(8), 147);
        x.hours(1);
        Due.is("150", x.look(8), 150);
        x.hours(1);
        Due.is("150", x.look(8), 150);
        Due.is("COUSINS go on", x.look(3), 153);
        line(x, 149, 2, 1, 2, 2, 9);
        line(x, 150, -1, -1, -1, -1, -1);
        line(x, 0, 0, 0, 2, 0, 9);
        x.set(2, 0, 5);
        Due.is("to PAY is done all the same", x.act(2, 0, 0), true);
        Due.is("DEBT", x.look(2), 148);
        Due.is("150", x.look(8), 150);
        line(x, 149, 2, 1, 2, 2, 9);
        x.set(4, 3, 99);
        Due.is("struck all the same", x.hours(1), 1);
        line(x, 149, 2, 1, 2, 2, 9);
        AliasHouse y = ranks(0, 1, 2, 3);
        y.hours(60);
        y.hours(14);
        Due.is("148", y.look(8), 148);
        y.set(2, 0, 1);
        y.act(2, 0, 0);
        Due.is("149", y.look(8), 149);
        line(y, 148, 3, 2, 4, 0, 1);
        y.hours(1);
        Due.is("one of two lines has room", y.look(8), 150);
        line(y, 149, 3, 2, 2, 0, 9);
    }

    private static void fullBookGoesBack() {
        Due.says("Promise 40, Terms 4", "UNDO: goes back (STATE, THE BOOK, too)");
        AliasHouse x = ranks(0, 1, 2, 3, 4);
        x.hours(51);
        x.undo();
        Due.is("full before the hour", x.look(8), 150);
        x.undo();
        Due.is("147", x.look(8), 147);
        line(x, 147, -1, -1, -1, -1, -1);
        x.act(1, 1, 0);
        x.hours(1);
        Due.is("two other lines", x.look(8), 149);
        line(x, 147, 2, 1, 2, 0, 9);
        line(x, 148, 2, 1, 2, 2, 9);
        line(x, 149, -1, -1, -1, -1, -1);
    }

    private static void goesBounds() {
        Due.says("Promise 16", "GOES for n (1 .. 60) HOURS what 0 .. 3. NONE if one can't be, or another what");
        AliasHouse x = house("seen 0;gains 1;costs 0;");
        x.act(0, 0, 3);
        for (int n : new int[] {0, -1, 61, MIN, MAX}) {
            for (int what = -1; what <= 4; what++) {
                Due.is("goes(" + n + ", " + what + ")", x.goes(n, what), -1);
            }
        }
        for (int what : new int[] {-1, 4, MIN, MAX}) {
            Due.is("goes(5, " + what + ")", x.goes(5, what), -1);
        }
        Due.is("goes(1, 0)", x.goes(1, 0), 106);
        Due.is("goes(60, 0)", x.goes(60, 0), 165);
        AliasHouse empty = new AliasHouse();
        for (int what = 0; what <= 3; what++) {
            Due.is("of an empty house", empty.goes(1, what), 0);
        }
        AliasHouse rich = new AliasHouse();
        for (int p = 0; p < 6; p++) {
            rich.person(0, 9999);
        }
        Due.is("PURSES of all", rich.goes(1, 0), 59994);
    }

    private static void goesSeenBy500() {
        Due.says("Promise 16, Terms 4", "no DRAWS: one is seen, if seen is 500 at least");
        for (int seen : new int[] {0, 1, 499, 500, 501, 1000}) {
            AliasHouse x = house("seen " + seen + ";costs 2;gains 0;");
            x.act(0, 0, 3);
            boolean caught = seen >= 500;
            Due.is("CAUGHT in 5 with " + seen, x.goes(5, 2), 0);
            Due.is("CAUGHT in 6", x.goes(6, 2), caught ? 1 : 0);
            Due.is("CAUGHT in 60", x.goes(60, 2), caught ? 1 : 0);
            Due.is("PURSES in 60", x.goes(60, 0), caught ? 93 : 5);
            Due.is("DEBT in 60", x.goes(60, 1), caught ? 0 : 20);
            Due.is("KEPT", x.keeps(0), caught ? 6 : -1);
            x.act(0, 1, 3);
            Due.is("COUSINS in 60", x.goes(60, 3), caught ? 2 : 60);
            Due.is("CAUGHT with another in 1", x.goes(1, 2), 0);
            Due.is("CAUGHT with another in 2", x.goes(2, 2), caught ? 2 : 0);
            Due.is("KEPT with another", x.keeps(1), caught ? 2 : -1);
        }
    }

    private static void goesLeavesNothing() {
        Due.says("Promise 16, Terms 4", "IN THOUGHT (nothing of it stays; no DRAWS)");
        AliasHouse x = house("seen 900;costs 20;gains 0;");
        Due.text(x, 2, "on 0 at 3 eyes 3 4;on 0 at 3 walk 2 9;on 0 at 4 give 1 9;");
        Due.text(x, 1, "alias 0 from 2 to 5 in 6;");
        x.act(0, 0, 3);
        x.act(0, 1, 3);
        for (int what = 0; what <= 3; what++) {
            x.goes(60, what);
            x.keeps(what);
        }
        int[] due = {2, 3, 0, 0, 0, 0, 0, 0, 0, 0, 3, 1, 3, 0, 2};
        for (int what = 0; what < due.length; what++) {
            Due.is("look(" + what + ")", x.look(what), due[what]);
        }
        Due.is("EYES", x.street(3, 0), 0);
        Due.is("PURSE", x.who(0, 1), 100);
        Due.is("OUT", x.who(0, 3), 3);
        Due.is("not OUT", x.who(1, 3), 0);
        Due.is("SEEN", x.of(0, 5), 0);
        Due.is("IN", x.of(0, 3), 3);
        Due.is("no line", x.book(0, 0), -1);
        int first = x.goes(9, 1);
        Due.is("the same again", x.goes(9, 1), first);
    }

    private static void goesBeyondTheLastDay() {
        Due.says("Promise 16", "NONE if one can't be (DAY 990 is named of hours() alone)");
        AliasHouse x = house(FREE);
        for (int i = 0; i < 396; i++) {
            x.hours(60);
        }
        x.hours(23);
        Due.text(x, 2, "on 991 at 0 give 1 7;");
        Due.is("hours(1)", x.hours(1), -1);
        Due.is("one hour", x.goes(1, 0), 105);
        Due.is("two hours", x.goes(2, 0), 112);
        Due.is("60 hours", x.goes(60, 0), 112);
        Due.is("KEPT", x.keeps(0), -1);
        Due.is("DAY as before", x.look(6), 990);
    }

    private static void keepsBounds() {
        Due.says("Promise 17", "KEPT; NONE, too, if there is none such");
        AliasHouse x = house(FREE);
        for (int a : new int[] {-1, 3, 18, MIN, MAX}) {
            Due.is("keeps(" + a + ")", x.keeps(a), -1);
        }
        Due.says("Promise 17, Terms 4", "for how many HOURS yet it is not STRUCK (NONE: more than 100; 0: it is)");
        Due.is("never", x.keeps(2), -1);
        x.set(4, 2, 50);
        Due.is("50", x.keeps(2), -1);
        x.set(4, 2, 51);
        Due.is("51: one hour", x.keeps(2), 1);
        x.hours(1);
        Due.is("it is", x.keeps(2), 0);
        x.undo();
        Due.is("it is not", x.keeps(2), 1);
    }

    private static void keepsAHundred() {
        Due.says("Promise 17, Terms 4", "NONE: more than 100");
        // the day turns behind 24, 48, 72 and 96 hours: 8 less; from day 4 on it is seen each hour
        AliasHouse x = house("seen 1000 when day=4;seen 0;costs 0;gains 0;");
        x.act(0, 0, 3);
        int[][] cases = {{50, 97}, {49, 97}, {48, 98}, {39, 98}, {38, 99}, {29, 99}, {28, 100}, {19, 100}, {18, -1}, {0, -1}};
        for (int[] c : cases) {
            x.set(4, 0, c[0]);
            Due.is("SEEN " + c[0], x.keeps(0), c[1]);
        }
    }

    private static void keepsBySeeing() {
        Due.says("Promise 17, Terms 4", "for how many HOURS yet it is not STRUCK");
        AliasHouse x = house(SEEN);
        Due.text(x, 1, "alias 0 from 3 to 3 in 8;");
        // seen once a day, 10 more and then 2 less: 8, 16, 24, 32, 40, and 50 on the sixth day: never above 50 in 100 hours
        Due.is("alone", x.keeps(0), -1);
        x.set(4, 0, 41);
        Due.is("in hour 3", x.keeps(0), 4);
        x.set(4, 0, 40);
        Due.is("50, then 48: the next day", x.keeps(0), 28);
        Due.text(x, 1, "alias 0 from 3 to 3 in 8;alias 1 from 3 to 3 in 8;");
        x.set(4, 0, 0);
        Due.is("30, 28, 58", x.keeps(0), 28);
        Due.is("the other", x.keeps(1), 28);
        Due.is("who is not OUT", x.keeps(2), -1);
    }
}
