/** The edges that the document names of what is told, done by hand and looked at: Terms 1; promises 1 to 9, 12 to 15, 42. */
final class EdgeFaceTest {
    private static final int MIN = Integer.MIN_VALUE;
    private static final int MAX = Integer.MAX_VALUE;
    private static final int STEP = 1664525;
    private static final int MORE = 1013904223;

    private EdgeFaceTest() {
    }

    public static void main(String[] args) {
        constants();
        newObject();
        twoHouses();
        fiveHundredCalls();
        state();
        drawsWrap();
        drawsAreWithoutSign();
        drawsOfAThousand();
        person();
        alias();
        placesUsedAgain();
        setEyes();
        setWits();
        setPurse();
        setRank();
        setSeen();
        setOthers();
        walk();
        lie();
        pay();
        payOthers();
        hours();
        hoursByTheLastDay();
        hoursThatFailLeaveAll();
        feed();
        feedAndEnd();
        end();
        of();
        who();
        street();
        book();
        look();
        Due.finish("EdgeFaceTest");
    }

    private static void constants() {
        Due.says("Terms", "The constants: NONE = -1");
        Due.is("NONE", AliasHouse.NONE, -1);
    }

    private static void newObject() {
        Due.says("Promise 1", "An empty house");
        AliasHouse x = new AliasHouse();
        for (int what = 0; what <= 14; what++) {
            Due.is("look(" + what + ")", x.look(what), 0);
        }
        for (int s = 0; s <= 9; s++) {
            for (int what = 0; what <= 2; what++) {
                Due.is("street(" + s + ", " + what + ")", x.street(s, what), 0);
            }
        }
        Due.is("of(0, 0)", x.of(0, 0), -1);
        Due.is("who(0, 0)", x.who(0, 0), -1);
        Due.is("book(0, 0)", x.book(0, 0), -1);
        Due.is("keeps(0)", x.keeps(0), -1);
        Due.is("set(3, 0, 0)", x.set(3, 0, 0), false);
        Due.is("act(0, 0, 0)", x.act(0, 0, 0), false);
        Due.is("undo()", x.undo(), false);
        Due.is("image(false)", x.image(false), false);
        Due.is("end(1)", x.end(1), false);
        Due.is("end(0)", x.end(0), true);
        Due.is("fault(0)", x.fault(0), 0);
        Due.is("fault(1)", x.fault(1), -1);
        for (int what = 0; what <= 3; what++) {
            Due.is("goes(60, " + what + ")", x.goes(60, what), 0);
        }
        for (int k = 0; k <= 3; k++) {
            Due.is("text(" + k + ") of the empty tape", x.text(k), 0);
        }
        Due.is("hours(60) of an empty house", x.hours(60), 0);
        Due.is("STATE: none draws", x.look(9), 0);
    }

    private static void twoHouses() {
        Due.says("Promise 1", "An empty house");
        AliasHouse full = Due.house();
        Due.lines(full, 0, "seen 1;", 1);
        full.state(5);
        full.set(0, 1, 3);
        full.vote(4);
        full.image(true);
        full.hours(3);
        Due.tape(full, "seen", 0);
        newObject();
    }

    private static void fiveHundredCalls() {
        Due.says("What it is", "used for at most 512 calls");
        AliasHouse x = new AliasHouse();
        for (int i = 1; i <= 510; i++) {
            x.state(i);
        }
        Due.is("call 511", x.state(511), 510);
        Due.is("call 512", x.look(9), 511);
    }

    private static void state() {
        Due.says("Promise 2", "STATE is told: what it was");
        AliasHouse x = new AliasHouse();
        int[] told = {0, 1, -1, MIN, MAX, 0};
        int was = 0;
        for (int v : told) {
            Due.is("state(" + v + ")", x.state(v), was);
            Due.is("look(9)", x.look(9), v);
            was = v;
        }
    }

    /** The STATE from which one draw comes to next. */
    private static int before(int next) {
        int inverse = 1;
        for (int i = 0; i < 5; i++) {
            inverse *= 2 - STEP * inverse;
        }
        return (next - MORE) * inverse;
    }

    /** Whether alias 0, alone and out, is seen by the draw that leads to next, if seen is so much. */
    private static boolean isSeen(int next, int seen) {
        AliasHouse x = Due.house();
        Due.text(x, 0, "seen " + seen + ";");
        x.act(0, 0, 3);
        x.state(before(next));
        x.hours(1);
        Due.is("STATE then", x.look(9), next);
        return x.of(0, 5) == 10;
    }

    private static void drawsWrap() {
        Due.says("Promise 7, Terms", "1664525 times itself + 1013904223 (ints, which wrap)");
        int[][] steps = {{0, 1013904223}, {1, 1015568748}, {-1, 1012239698}, {MAX, -1135243950}, {MIN, -1133579425}};
        for (int[] step : steps) {
            AliasHouse x = Due.house();
            Due.text(x, 0, "seen 1;");
            x.act(0, 0, 3);
            x.state(step[0]);
            x.hours(1);
            Due.is("from " + step[0], x.look(9), step[1]);
        }
    }

    private static void drawsAreWithoutSign() {
        Due.says("Promise 7, Terms", "then it is its highest 24 bits (without sign) modulo m");
        // -1: its highest 24 bits are 16777215
        Due.is("-1 below 216", isSeen(-1, 216), true);
        Due.is("-1 below 215", isSeen(-1, 215), false);
        // the least int: 8388608; the greatest: 8388607
        Due.is("least below 609", isSeen(MIN, 609), true);
        Due.is("least below 608", isSeen(MIN, 608), false);
        Due.is("greatest below 608", isSeen(MAX, 608), true);
        Due.is("greatest below 607", isSeen(MAX, 607), false);
        // the eight lowest bits are not asked
        Due.is("255 is 0", isSeen(255, 1), true);
        Due.is("256 is 1", isSeen(256, 1), false);
        Due.is("256 is 1", isSeen(256, 2), true);
    }

    private static void drawsOfAThousand() {
        Due.says("Promise 7, Terms 3 (d)", "a DRAW of 1000: below it SEEN is 10 more");
        Due.is("999 below 1000", isSeen(999 << 8, 1000), true);
        Due.is("999 below 999", isSeen(999 << 8, 999), false);
        Due.is("1000 is 0", isSeen(1000 << 8, 1), true);
        Due.is("1001 is 1", isSeen(1001 << 8, 1), false);
        Due.is("0 below 1", isSeen(0, 1), true);
    }

    private static void person() {
        Due.says("Promise 3", "WITS 0 .. 9, PURSE 0 .. 9999: the number; NONE if one can't be, or there are six");
        AliasHouse x = new AliasHouse();
        int[][] wrong = {{-1, 0}, {10, 0}, {0, -1}, {0, 10000}, {MIN, 0}, {MAX, 0}, {0, MIN}, {0, MAX}};
        for (int i = 0; i < 6; i++) {
            for (int[] w : wrong) {
                Due.is("person(" + w[0] + ", " + w[1] + ")", x.person(w[0], w[1]), -1);
                Due.is("PERSONS as before", x.look(0), i);
            }
            Due.is("no PERSON there", x.who(i, 0), -1);
            int wits = i % 2 == 0 ? 0 : 9;
            int purse = i < 3 ? 0 : 9999;
            Due.is("person(" + wits + ", " + purse + ")", x.person(wits, purse), i);
            Due.is("WITS", x.who(i, 0), wits);
            Due.is("PURSE", x.who(i, 1), purse);
            Due.is("his ALIASES", x.who(i, 2), 0);
            Due.is("those OUT", x.who(i, 3), 0);
        }
        Due.is("the seventh", x.person(3, 3), -1);
        Due.is("six", x.look(0), 6);
        Due.is("the first as before", x.who(0, 1), 0);
        Due.is("the sixth as before", x.who(5, 1), 9999);
        Due.is("no PERSON 6", x.who(6, 0), -1);
    }

    private static void alias() {
        Due.says("Promise 4", "RANK 0 .. 9, HOME a STREET: the number; NONE if one can't be, or there are eighteen");
        AliasHouse x = new AliasHouse();
        Due.is("no PERSON yet", x.alias(0, 0, 0), -1);
        x.person(1, 1);
        x.person(1, 1);
        int[][] wrong = {{-1, 0, 0}, {2, 0, 0}, {0, -1, 0}, {0, 10, 0}, {0, 0, -1}, {0, 0, 10}, {MIN, 0, 0}, {MAX, 0, 0},
            {0, MIN, 0}, {0, MAX, 0}, {0, 0, MIN}, {0, 0, MAX}};
        for (int[] w : wrong) {
            Due.is("alias(" + w[0] + ", " + w[1] + ", " + w[2] + ")", x.alias(w[0], w[1], w[2]), -1);
            Due.is("none came", x.look(1), 0);
        }
        for (int a = 0; a < 18; a++) {
            int rank = a % 3 == 0 ? 0 : 9;
            int home = a % 2 == 0 ? 9 : 0;
            Due.is("no ALIAS " + a, x.of(a, 0), -1);
            Due.is("alias", x.alias(a % 2, rank, home), a);
            int[] due = {a % 2, rank, home, home, 0, 0, 0};
            for (int what = 0; what < due.length; what++) {
                Due.is("of(" + a + ", " + what + ")", x.of(a, what), due[what]);
            }
        }
        Due.is("the nineteenth", x.alias(0, 1, 1), -1);
        Due.is("eighteen", x.look(1), 18);
        Due.is("no ALIAS 18", x.of(18, 0), -1);
        Due.is("his of person 0", x.who(0, 2), 0x15555);
        Due.is("his of person 1", x.who(1, 2), 0x2aaaa);
    }

    private static void placesUsedAgain() {
        Due.says("Promise 4, Terms 1", "IN a STREET (HOME at first), OUT 0 at first, SEEN 0 at first, STRUCK 0 at first");
        AliasHouse x = new AliasHouse();
        x.image(true);
        x.person(9, 99);
        x.alias(0, 9, 9);
        x.set(4, 0, 70);
        x.act(0, 0, 5);
        x.hours(1);
        Due.is("struck", x.of(0, 6), 1);
        x.image(false);
        Due.is("PERSON 0 again", x.person(1, 2), 0);
        Due.is("ALIAS 0 again", x.alias(0, 3, 4), 0);
        int[] due = {0, 3, 4, 4, 0, 0, 0};
        for (int what = 0; what < due.length; what++) {
            Due.is("of(0, " + what + ")", x.of(0, what), due[what]);
        }
        x.act(0, 0, 5);
        x.image(false);
        x.person(1, 2);
        x.alias(0, 3, 4);
        Due.is("not OUT", x.of(0, 4), 0);
        Due.is("IN its HOME", x.of(0, 3), 4);
    }

    /** All of who least .. last and v least .. most can be, and none beside them. */
    private static void setEdges(AliasHouse x, int what, int last, int most) {
        int[] wrongWho = {-1, last + 1, MIN, MAX};
        int[] wrongV = {-1, most + 1, MIN, MAX};
        for (int who : wrongWho) {
            Due.is("set(" + what + ", " + who + ", 1)", x.set(what, who, 1), false);
        }
        for (int who : new int[] {0, last}) {
            for (int v : new int[] {most, 0, 1}) {
                Due.is("set(" + what + ", " + who + ", " + v + ")", x.set(what, who, v), true);
                Due.is("is " + v, value(x, what, who), v);
            }
            for (int v : wrongV) {
                Due.is("set(" + what + ", " + who + ", " + v + ")", x.set(what, who, v), false);
                Due.is("as before", value(x, what, who), 1);
            }
        }
    }

    private static int value(AliasHouse x, int what, int who) {
        if (what == 0) {
            return x.street(who, 0);
        }
        if (what < 3) {
            return x.who(who, what - 1);
        }
        return x.of(who, what == 3 ? 1 : 5);
    }

    private static void setEyes() {
        Due.says("Promise 5", "What 0 EYES of STREET who: EYES 0 .. 9, STREETS 0 .. 9");
        setEdges(Due.house(), 0, 9, 9);
    }

    private static void setWits() {
        Due.says("Promise 5", "1 WITS of PERSON who: WITS 0 .. 9");
        setEdges(Due.house(), 1, 1, 9);
    }

    private static void setPurse() {
        Due.says("Promise 5", "2 PURSE of PERSON who: PURSE 0 .. 9999");
        setEdges(Due.house(), 2, 1, 9999);
    }

    private static void setRank() {
        Due.says("Promise 5", "3 RANK of ALIAS who: RANK 0 .. 9");
        setEdges(Due.house(), 3, 2, 9);
    }

    private static void setSeen() {
        Due.says("Promise 5", "4 SEEN of ALIAS who: SEEN 0 .. 99");
        setEdges(Due.house(), 4, 2, 99);
        AliasHouse x = Due.house();
        for (int v = 0; v <= 99; v++) {
            Due.is("set(4, 0, " + v + ")", x.set(4, 0, v), true);
            Due.is("SEEN then", x.of(0, 5), v);
            Due.is("not STRUCK before an HOUR has gone by", x.of(0, 6), 0);
        }
    }

    private static void setOthers() {
        Due.says("Promise 5", "false if one can't be, or another what");
        for (int what : new int[] {-1, 5, 6, MIN, MAX}) {
            Due.is("set(" + what + ", 0, 0)", Due.house().set(what, 0, 0), false);
        }
        AliasHouse empty = new AliasHouse();
        for (int what = 1; what < 5; what++) {
            Due.is("of nobody: set(" + what + ", 0, 0)", empty.set(what, 0, 0), false);
        }
        AliasHouse full = new AliasHouse();
        for (int i = 0; i < 18; i++) {
            full.person(0, 0);
            full.alias(0, 0, 0);
        }
        setEdges(full, 1, 5, 9);
        setEdges(full, 3, 17, 9);
    }

    private static void walk() {
        Due.says("Promise 6", "What 0 to WALK ALIAS who IN STREET v: true; false if it can't be (STRUCK)");
        AliasHouse x = Due.house();
        int[][] wrong = {{-1, 3}, {3, 3}, {0, -1}, {0, 10}, {MIN, 3}, {MAX, 3}, {0, MIN}, {0, MAX}};
        for (int[] w : wrong) {
            Due.is("act(0, " + w[0] + ", " + w[1] + ")", x.act(0, w[0], w[1]), false);
            Due.is("none OUT", x.who(0, 3) | x.who(1, 3), 0);
            Due.is("none to be undone", x.look(14), 0);
        }
        for (int s : new int[] {0, 9, 1}) {
            Due.is("act(0, 2, " + s + ")", x.act(0, 2, s), true);
            Due.is("OUT", x.of(2, 4), 1);
            Due.is("IN", x.of(2, 3), s);
            Due.is("HOME as before", x.of(2, 2), 1);
        }
        Due.is("again where it is", x.act(0, 2, 1), true);
        x.set(4, 2, 51);
        x.hours(1);
        Due.is("STRUCK", x.act(0, 2, 1), false);
        Due.is("still not OUT", x.of(2, 4), 0);
        Due.is("the hour alone can be undone", x.look(14), 1);
        Due.is("undone", x.undo(), true);
        Due.is("not STRUCK again", x.act(0, 2, 1), true);
    }

    private static void lie() {
        Due.says("Promise 6", "1 to let it LIE (OUT; v not asked): true; false if it can't be");
        AliasHouse x = Due.house();
        for (int a : new int[] {0, 2, -1, 3, MIN, MAX}) {
            Due.is("not OUT: act(1, " + a + ", 0)", x.act(1, a, 0), false);
        }
        for (int v : new int[] {0, -1, 10, MIN, MAX}) {
            x.act(0, 2, 7);
            Due.is("act(1, 2, " + v + ")", x.act(1, 2, v), true);
            Due.is("not OUT", x.of(2, 4), 0);
            Due.is("IN its HOME", x.of(2, 3), 1);
        }
        Due.is("not OUT any more", x.act(1, 2, 0), false);
        x.act(0, 2, 1);
        Due.is("OUT IN its HOME", x.act(1, 2, 0), true);
        Due.is("six to be undone", x.look(14), 6);
    }

    /** Person 0 has that purse, and so much debt is there. */
    private static AliasHouse owing(int purse, int debt) {
        AliasHouse x = Due.house();
        Due.text(x, 0, "seen 0; gains 0; costs " + debt + ";");
        x.set(2, 1, 0);
        x.act(0, 2, 4);
        x.hours(1);
        x.set(2, 0, purse);
        Due.is("DEBT", x.look(2), debt);
        return x;
    }

    private static void pay() {
        Due.says("Promise 6", "2 to PAY by PERSON who (as much as both have): true; false if nothing to pay, or with");
        int[][] cases = {{1, 1, 1}, {1, 99, 1}, {99, 1, 1}, {50, 50, 50}, {50, 51, 50}, {51, 50, 50}, {9999, 99, 99}};
        for (int[] c : cases) {
            AliasHouse x = owing(c[0], c[1]);
            Due.is("act(2, 0, 0)", x.act(2, 0, 0), true);
            Due.is("PURSE " + c[0] + " less " + c[2], x.who(0, 1), c[0] - c[2]);
            Due.is("DEBT " + c[1] + " less " + c[2], x.look(2), c[1] - c[2]);
            Due.is("one line", x.look(8), 1);
            Due.is("4 paid", x.book(0, 2), 4);
            Due.is("the PERSON", x.book(0, 3), 0);
            Due.is("how much", x.book(0, 4), c[2]);
            Due.is("nothing more to pay, or with", x.act(2, 0, 0), false);
            Due.is("one line", x.look(8), 1);
            Due.is("one to be undone", x.look(14), 1);
        }
    }

    private static void payOthers() {
        Due.says("Promise 6", "false if nothing to pay, or with, or another what");
        AliasHouse x = owing(0, 5);
        Due.is("PURSE 0", x.act(2, 0, 0), false);
        x.set(2, 0, 7);
        for (int who : new int[] {-1, 2, MIN, MAX}) {
            Due.is("act(2, " + who + ", 0)", x.act(2, who, 0), false);
        }
        Due.is("DEBT as before", x.look(2), 5);
        Due.is("v not asked", x.act(2, 0, MIN), true);
        Due.is("PURSE", x.who(0, 1), 2);
        Due.is("DEBT 0", x.act(2, 0, 0), false);
        Due.is("PURSE as before", x.who(0, 1), 2);
        for (int what : new int[] {-1, 3, MIN, MAX}) {
            Due.is("act(" + what + ", 0, 0)", x.act(what, 0, 0), false);
        }
    }

    private static void hours() {
        Due.says("Promise 7", "HOURS go by (1 .. 60): how many were struck off");
        for (int n : new int[] {0, -1, 61, MIN, MAX}) {
            AliasHouse x = Due.house();
            Due.is("hours(" + n + ")", x.hours(n), -1);
            Due.is("HOUR", x.look(5), 0);
            Due.is("none to be undone", x.look(14), 0);
        }
        AliasHouse x = Due.house();
        Due.is("hours(1)", x.hours(1), 0);
        Due.is("HOUR 1", x.look(5), 1);
        Due.is("one to be undone", x.look(14), 1);
        Due.is("hours(60)", x.hours(60), 0);
        Due.is("HOUR 61 - 48", x.look(5), 13);
        Due.is("DAY 2", x.look(6), 2);
        AliasHouse all = new AliasHouse();
        all.person(0, 0);
        for (int a = 0; a < 18; a++) {
            all.alias(0, 0, 0);
            all.set(4, a, 51);
        }
        Due.is("all eighteen", all.hours(60), 18);
        Due.is("none twice", all.hours(60), 0);
        Due.is("CAUGHT", all.look(4), 18);
        Due.is("those STRUCK", all.look(7), 0x3ffff);
    }

    /** A house so many hours old. */
    private static AliasHouse old(int hours) {
        AliasHouse x = new AliasHouse();
        for (int i = hours; i >= 60; i -= 60) {
            x.hours(60);
        }
        if (hours % 60 > 0) {
            x.hours(hours % 60);
        }
        Due.is("DAY", x.look(6), hours / 24);
        Due.is("HOUR", x.look(5), hours % 24);
        return x;
    }

    private static void hoursByTheLastDay() {
        Due.says("Promise 7", "NONE if DAY (and HOUR and n by 24) would be above 990");
        AliasHouse x = old(990 * 24);
        Due.is("990 and 0: 24", x.hours(24), -1);
        Due.is("990 and 0: 60", x.hours(60), -1);
        Due.is("990 and 0: 23", x.hours(23), 0);
        Due.is("990 and 23: 1", x.hours(1), -1);
        x.undo();
        Due.is("990 and 22: 2", x.hours(2), -1);
        Due.is("990 and 22: 1", x.hours(1), 0);
        Due.is("the last HOUR", x.look(5), 23);
        Due.is("the last DAY", x.look(6), 990);
        x = old(989 * 24 + 23);
        Due.is("989 and 23: 25", x.hours(25), -1);
        Due.is("989 and 23: 24", x.hours(24), 0);
        Due.is("DAY 990", x.look(6), 990);
        x = old(988 * 24 + 12);
        Due.is("988 and 12: 60", x.hours(60), -1);
        Due.is("988 and 12: 59", x.hours(59), 0);
        x = old(988 * 24 + 11);
        Due.is("988 and 11: 60", x.hours(60), 0);
        Due.is("HOUR 23", x.look(5), 23);
    }

    private static void hoursThatFailLeaveAll() {
        Due.says("Promise 7", "NONE, and nothing is done");
        AliasHouse x = old(990 * 24 + 22);
        x.person(1, 5);
        x.alias(0, 9, 4);
        x.set(4, 0, 70);
        x.act(0, 0, 3);
        Due.is("hours(2)", x.hours(2), -1);
        Due.is("HOUR", x.look(5), 22);
        Due.is("not STRUCK", x.look(7), 0);
        Due.is("CAUGHT", x.look(4), 0);
        Due.is("PURSE", x.who(0, 1), 5);
        Due.is("OUT", x.of(0, 4), 1);
        Due.is("STATE", x.look(9), 0);
        Due.is("THE BOOK", x.look(8), 0);
        Due.is("the walk alone can be undone", x.look(14), 1);
        Due.is("hours(1)", x.hours(1), 1);
    }

    private static void feed() {
        Due.says("Promise 8", "Twenty bytes come behind the TAPE: how many it has. NONE, and nothing comes, if there would be more than 400");
        AliasHouse x = new AliasHouse();
        for (int n = 20; n <= 400; n += 20) {
            Due.is("feed", x.feed(MIN, MAX, -1, 0, 1), n);
        }
        Due.is("420", x.feed(0, 0, 0, 0, 0), -1);
        Due.is("400 are there", x.end(401), false);
        Due.is("400 are there", x.end(400), true);
        Due.is("again", x.feed(0, 0, 0, 0, 0), -1);
        x.end(381);
        Due.is("401", x.feed(0, 0, 0, 0, 0), -1);
        Due.is("381 are there", x.end(382), false);
        Due.is("381 are there", x.end(381), true);
        x.end(380);
        Due.is("400", x.feed(0, 0, 0, 0, 0), 400);
        x.end(1);
        Due.is("21", x.feed(0, 0, 0, 0, 0), 21);
        x.end(0);
        Due.is("20", x.feed(0, 0, 0, 0, 0), 20);
        AliasHouse refused = new AliasHouse();
        Due.tape(refused, "street 3 by 4;" + " ".repeat(386), 0);
        Due.is("full", refused.feed(0x21212121, 0, 0, 0, 0), -1);
        Due.is("what is there stays", refused.text(3), 1);
        Due.is("empty then", refused.feed(0, 0, 0, 0, 0), 20);
    }

    private static void feedAndEnd() {
        Due.says("Promise 8", "of each number the highest first");
        AliasHouse x = new AliasHouse();
        Due.is("\"street 1 by 2;      \"", x.feed(0x73747265, 0x65742031, 0x20627920, 0x323b2020, 0x20202020), 20);
        Due.is("a text", x.text(3), 1);
        Due.is("beside", x.street(1, 2), 4);
        // a byte above 127 is one sign, and no blank
        for (int high : new int[] {0x80202020, 0xff202020, 0xe9202020, 0x00202020}) {
            x.feed(high, 0x20202020, 0x20202020, 0x20202020, 0x20202020);
            Due.is("text", x.text(3), -1);
            Due.is("at 0", x.fault(1), 0);
        }
        for (int place = 0; place < 20; place++) {
            int[] five = {0x20202020, 0x20202020, 0x20202020, 0x20202020, 0x20202020};
            five[place / 4] ^= 1 << 8 * (3 - place % 4);
            x.feed(five[0], five[1], five[2], five[3], five[4]);
            Due.is("text", x.text(0), -1);
            Due.is("its place", x.fault(1), place);
        }
    }

    private static void end() {
        Due.says("Promise 9", "its first n bytes alone: true; false, changing nothing, if it has not so many, or n is below 0");
        AliasHouse x = new AliasHouse();
        int[] wrong = {1, -1, MIN, MAX};
        for (int n : wrong) {
            Due.is("end(" + n + ") of none", x.end(n), false);
        }
        Due.is("end(0) of none", x.end(0), true);
        Due.tape(x, "street 0 by 1;street", 0);
        for (int n : new int[] {21, -1, MIN, MAX, 400}) {
            Due.is("end(" + n + ") of 20", x.end(n), false);
        }
        Due.is("all are there", x.end(20), true);
        Due.is("end(14)", x.end(14), true);
        Due.is("no more than these", x.end(15), false);
        Due.is("the first ones", x.text(3), 1);
        Due.is("the tape is empty", x.end(1), false);
        Due.tape(x, "street 0 by 2;", 0);
        x.end(-1);
        x.end(15);
        Due.is("changing nothing", x.text(3), 1);
        Due.is("beside", x.street(0, 2), 4);
        Due.tape(x, "x", 0);
        Due.is("end(0)", x.end(0), true);
        Due.is("the empty text", x.text(3), 0);
    }

    private static void of() {
        Due.says("Promise 12", "NONE if there is none such, or another what");
        AliasHouse x = Due.house();
        for (int a : new int[] {-1, 3, 18, MIN, MAX}) {
            for (int what = -1; what <= 10; what++) {
                Due.is("of(" + a + ", " + what + ")", x.of(a, what), -1);
            }
        }
        for (int what : new int[] {-1, 10, MIN, MAX}) {
            Due.is("of(2, " + what + ")", x.of(2, what), -1);
        }
        Due.is("of(2, 0)", x.of(2, 0), 1);
        Due.is("of(2, 9)", x.of(2, 9), 4);
        Due.says("Promise 12", "0 PERSON, 1 RANK, 2 HOME, 3 IN, 4 OUT, 5 SEEN, 6 STRUCK, 7 seen, 8 costs, 9 gains");
        x.act(0, 1, 9);
        x.set(4, 1, 44);
        x.set(0, 9, 3);
        int[] due = {0, 7, 2, 9, 1, 44, 0, 200, 8, 14};
        for (int what = 0; what < due.length; what++) {
            Due.is("of(1, " + what + ")", x.of(1, what), due[what]);
        }
    }

    private static void who() {
        Due.says("Promise 13", "NONE if there is none such, or another what");
        AliasHouse x = Due.house();
        for (int p : new int[] {-1, 2, 6, MIN, MAX}) {
            for (int what = -1; what <= 4; what++) {
                Due.is("who(" + p + ", " + what + ")", x.who(p, what), -1);
            }
        }
        for (int what : new int[] {-1, 4, MIN, MAX}) {
            Due.is("who(1, " + what + ")", x.who(1, what), -1);
        }
        Due.says("Promise 13", "2 his ALIASES (a set), 3 those OUT (a set)");
        AliasHouse full = new AliasHouse();
        full.person(0, 0);
        full.person(0, 0);
        for (int a = 0; a < 18; a++) {
            full.alias(a == 0 || a == 17 ? 1 : 0, 0, 0);
            full.act(0, a, 5);
        }
        Due.is("all but two", full.who(0, 2), 0x1fffe);
        Due.is("the first and the last", full.who(1, 2), 0x20001);
        Due.is("OUT", full.who(1, 3), 0x20001);
        full.act(1, 17, 0);
        Due.is("OUT", full.who(1, 3), 1);
        Due.is("his", full.who(1, 2), 0x20001);
        full.act(1, 0, 0);
        Due.is("none OUT", full.who(1, 3), 0);
    }

    private static void street() {
        Due.says("Promise 14", "NONE if there is none such, or another what");
        AliasHouse x = Due.house();
        for (int s : new int[] {-1, 10, MIN, MAX}) {
            for (int what = -1; what <= 3; what++) {
                Due.is("street(" + s + ", " + what + ")", x.street(s, what), -1);
            }
        }
        for (int what : new int[] {-1, 3, MIN, MAX}) {
            Due.is("street(9, " + what + ")", x.street(9, what), -1);
        }
        Due.says("Promise 14", "1 ALIASES OUT in it (a set), 2 STREETS beside it (a set)");
        Due.is("who lies there is not OUT", x.street(1, 1), 0);
        x.act(0, 0, 1);
        x.act(0, 2, 9);
        x.act(0, 1, 9);
        Due.is("OUT in 1", x.street(1, 1), 1);
        Due.is("OUT in 9", x.street(9, 1), 6);
        Due.lines(x, 3, "street 0 by 9; street 9 by 0; street 9 by 8;", 3);
        Due.is("beside 0", x.street(0, 2), 512);
        Due.is("beside 9", x.street(9, 2), 257);
        Due.is("beside 8", x.street(8, 2), 512);
        Due.is("beside 1", x.street(1, 2), 0);
        AliasHouse full = new AliasHouse();
        full.person(0, 0);
        for (int a = 0; a < 18; a++) {
            full.alias(0, 0, 0);
            full.act(0, a, 9);
        }
        Due.is("all OUT in 9", full.street(9, 1), 0x3ffff);
        Due.is("all of one PERSON", full.who(0, 2), 0x3ffff);
        Due.is("all of them OUT", full.who(0, 3), 0x3ffff);
        Due.is("none OUT in 8", full.street(8, 1), 0);
    }

    private static void book() {
        Due.says("Promise 15", "NONE if there is none such, or another what");
        AliasHouse x = Due.house();
        Due.is("no line yet", x.book(0, 0), -1);
        x.set(4, 2, 60);
        x.hours(1);
        for (int i : new int[] {-1, 1, 150, MIN, MAX}) {
            for (int what = -1; what <= 5; what++) {
                Due.is("book(" + i + ", " + what + ")", x.book(i, what), -1);
            }
        }
        for (int what : new int[] {-1, 5, MIN, MAX}) {
            Due.is("book(0, " + what + ")", x.book(0, what), -1);
        }
        int[] due = {0, 0, 3, 2, 60};
        for (int what = 0; what < 5; what++) {
            Due.is("book(0, " + what + ")", x.book(0, what), due[what]);
        }
    }

    private static void look() {
        Due.says("Promise 42", "What 0 .. 14; NONE for another what (STATE as it is)");
        AliasHouse x = Due.house();
        for (int what : new int[] {-1, 15, 16, MIN, MAX}) {
            Due.is("look(" + what + ")", x.look(what), -1);
        }
        Due.lines(x, 0, "seen 1000; seen 1;", 2);
        Due.lines(x, 1, "alias 2 from 0 to 0 in 1; alias 2 from 0 to 0 in 1; alias 2 from 0 to 0 in 1;", 3);
        Due.lines(x, 2, "on 1 at 1 lie 1;", 1);
        Due.lines(x, 3, "street 0 by 1; street 0 by 1; street 0 by 1; street 0 by 1;", 4);
        x.set(4, 1, 51);
        x.set(4, 2, 41);
        x.set(2, 1, 0);
        x.state(-2);
        x.act(0, 0, 9);
        x.hours(25);
        // aliases 1 and 2 are caught in hour 0, 2 seen just then; alias 0 in hour 5, seen six times: seven lines and three
        int[] due = {2, 3, 0, 0, 3, 1, 1, 7, 10, x.look(9), 2, 3, 1, 4, 6};
        for (int what = 0; what < due.length; what++) {
            Due.is("look(" + what + ")", x.look(what), due[what]);
        }
        Due.is("STATE: seven draws from -2", x.look(9), drawn(-2, 7));
    }

    private static int drawn(int state, int times) {
        for (int i = 0; i < times; i++) {
            state = state * STEP + MORE;
        }
        return state;
    }
}
