/** Promises 1 to 6, 8, 9, 12 to 15 and 40 to 42: what is told, done by hand, looked at and undone. */
final class FaceTest {
    private FaceTest() {
    }

    public static void main(String[] args) {
        newObject();
        state();
        person();
        alias();
        set();
        act();
        pay();
        feed();
        end();
        of();
        who();
        street();
        book();
        undo();
        whatForgets();
        image();
        imageOfTheBook();
        look();
        extremes();
        Due.finish("FaceTest");
    }

    private static void newObject() {
        Due.is("NONE", AliasHouse.NONE, -1);
        AliasHouse x = new AliasHouse();
        for (int what = 0; what <= 14; what++) {
            Due.is("new look(" + what + ")", x.look(what), 0);
        }
        for (int s = 0; s < 10; s++) {
            for (int what = 0; what < 3; what++) {
                Due.is("new street", x.street(s, what), 0);
            }
        }
        Due.is("new undo", x.undo(), false);
        Due.is("new image(false)", x.image(false), false);
        Due.is("new fault(0)", x.fault(0), 0);
        Due.is("new fault(1)", x.fault(1), -1);
        Due.is("new book", x.book(0, 0), -1);
    }

    private static void state() {
        AliasHouse x = new AliasHouse();
        Due.is("state(7)", x.state(7), 0);
        Due.is("look(9)", x.look(9), 7);
        Due.is("state(min)", x.state(Integer.MIN_VALUE), 7);
        Due.is("look(9)", x.look(9), Integer.MIN_VALUE);
        Due.is("state(0)", x.state(0), Integer.MIN_VALUE);
    }

    private static void person() {
        AliasHouse x = new AliasHouse();
        Due.is("wits -1", x.person(-1, 0), -1);
        Due.is("wits 10", x.person(10, 0), -1);
        Due.is("purse -1", x.person(0, -1), -1);
        Due.is("purse 10000", x.person(0, 10000), -1);
        Due.is("none yet", x.look(0), 0);
        Due.is("first", x.person(0, 0), 0);
        Due.is("second", x.person(9, 9999), 1);
        Due.is("wits", x.who(1, 0), 9);
        Due.is("purse", x.who(1, 1), 9999);
        for (int p = 2; p < 6; p++) {
            Due.is("next", x.person(p, p), p);
        }
        Due.is("seventh", x.person(1, 1), -1);
        Due.is("six", x.look(0), 6);
        Due.is("the first stays", x.who(0, 1), 0);
    }

    private static void alias() {
        AliasHouse x = new AliasHouse();
        Due.is("no person", x.alias(0, 1, 1), -1);
        x.person(0, 0);
        Due.is("person -1", x.alias(-1, 1, 1), -1);
        Due.is("person 1", x.alias(1, 1, 1), -1);
        Due.is("rank -1", x.alias(0, -1, 1), -1);
        Due.is("rank 10", x.alias(0, 10, 1), -1);
        Due.is("home -1", x.alias(0, 1, -1), -1);
        Due.is("home 10", x.alias(0, 1, 10), -1);
        for (int a = 0; a < 18; a++) {
            Due.is("alias", x.alias(0, a % 10, 9 - a % 10), a);
        }
        Due.is("nineteenth", x.alias(0, 0, 0), -1);
        Due.is("eighteen", x.look(1), 18);
        Due.is("rank", x.of(17, 1), 7);
        Due.is("home", x.of(17, 2), 2);
        Due.is("in", x.of(17, 3), 2);
        Due.is("out", x.of(17, 4), 0);
        Due.is("seen", x.of(17, 5), 0);
        Due.is("struck", x.of(17, 6), 0);
        Due.is("all are his", x.who(0, 2), (1 << 18) - 1);
    }

    private static void set() {
        AliasHouse x = Due.house();
        int[] count = {10, 2, 2, 3, 3};
        int[] most = {9, 9, 9999, 9, 99};
        for (int what = 0; what < 5; what++) {
            int last = count[what] - 1;
            Due.is("who -1", x.set(what, -1, 1), false);
            Due.is("who too great", x.set(what, last + 1, 1), false);
            Due.is("v -1", x.set(what, last, -1), false);
            Due.is("v too great", x.set(what, last, most[what] + 1), false);
            Due.is("v most", x.set(what, last, most[what]), true);
        }
        Due.is("eyes", x.street(9, 0), 9);
        Due.is("wits", x.who(1, 0), 9);
        Due.is("purse", x.who(1, 1), 9999);
        Due.is("rank", x.of(2, 1), 9);
        Due.is("seen", x.of(2, 5), 99);
        for (int what = 0; what < 5; what++) {
            Due.is("v 0", x.set(what, 0, 0), true);
        }
        Due.is("eyes 0", x.street(0, 0), 0);
        Due.is("rank 0", x.of(0, 1), 0);
        Due.is("others stay", x.of(1, 1), 7);
        Due.is("what -1", x.set(-1, 0, 0), false);
        Due.is("what 5", x.set(5, 0, 0), false);
    }

    private static void act() {
        AliasHouse x = Due.house();
        Due.is("walk -1", x.act(0, -1, 3), false);
        Due.is("walk 3", x.act(0, 3, 3), false);
        Due.is("street -1", x.act(0, 0, -1), false);
        Due.is("street 10", x.act(0, 0, 10), false);
        Due.is("what -1", x.act(-1, 0, 0), false);
        Due.is("what 3", x.act(3, 0, 0), false);
        Due.is("lie while in", x.act(1, 0, 0), false);
        Due.is("nothing to undo", x.look(14), 0);
        Due.is("walk", x.act(0, 0, 9), true);
        Due.is("out", x.of(0, 4), 1);
        Due.is("in", x.of(0, 3), 9);
        Due.is("walk on", x.act(0, 0, 0), true);
        Due.is("in", x.of(0, 3), 0);
        Due.is("lie, v not asked", x.act(1, 0, 77), true);
        Due.is("not out", x.of(0, 4), 0);
        Due.is("home", x.of(0, 3), 1);
        Due.is("lie again", x.act(1, 0, 0), false);
        Due.is("lie -1", x.act(1, -1, 0), false);
        Due.is("lie 3", x.act(1, 3, 0), false);
        Due.is("three to undo", x.look(14), 3);
        Due.is("no hour, no line", x.look(8), 0);
        x.set(4, 1, 51);
        x.hours(1);
        Due.is("struck can't walk", x.act(0, 1, 1), false);
        Due.is("struck can't lie", x.act(1, 1, 1), false);
    }

    private static void pay() {
        AliasHouse x = Due.house();
        x.set(2, 0, 0);
        x.set(2, 1, 0);
        Due.is("nothing to pay", x.act(2, 0, 0), false);
        Due.lines(x, 0, "gains 0; costs 5; seen 0;", 3);
        x.act(0, 0, 3);
        x.act(0, 2, 3);
        x.hours(1);
        Due.is("debt", x.look(2), 10);
        Due.is("nothing to pay with", x.act(2, 0, 0), false);
        x.set(2, 0, 4);
        x.set(2, 1, 40);
        Due.is("no person -1", x.act(2, -1, 0), false);
        Due.is("no person 2", x.act(2, 2, 0), false);
        Due.is("pay what he has", x.act(2, 0, 99), true);
        Due.is("debt", x.look(2), 6);
        Due.is("purse", x.who(0, 1), 0);
        Due.is("pay the rest", x.act(2, 1, 0), true);
        Due.is("debt", x.look(2), 0);
        Due.is("purse", x.who(1, 1), 34);
        Due.is("paid", x.act(2, 1, 0), false);
        payOfOne();
        int[] line = {0, 1, 4, 1, 6};
        for (int what = 0; what < 5; what++) {
            Due.is("line 1, " + what, x.book(1, what), line[what]);
        }
        Due.is("line 0, how much", x.book(0, 4), 4);
    }

    private static void payOfOne() {
        AliasHouse x = Due.house();
        x.set(2, 1, 0);
        Due.lines(x, 0, "gains 0; costs 1; seen 0;", 3);
        x.act(0, 2, 3);
        x.hours(1);
        Due.is("pay 1", x.act(2, 0, 0), true);
        Due.is("purse", x.who(0, 1), 99);
        Due.is("debt", x.look(2), 0);
    }

    private static void feed() {
        AliasHouse x = new AliasHouse();
        for (int n = 20; n <= 400; n += 20) {
            Due.is("feed", x.feed(0, 0, 0, 0, 0), n);
        }
        Due.is("full", x.feed(0, 0, 0, 0, 0), -1);
        Due.is("still all there", x.end(400), true);
        Due.is("end 381", x.end(381), true);
        Due.is("no room for 20", x.feed(0, 0, 0, 0, 0), -1);
        Due.is("nothing came", x.end(382), false);
        Due.is("end 380", x.end(380), true);
        Due.is("room", x.feed(0, 0, 0, 0, 0), 400);
        AliasHouse y = new AliasHouse();
        // "stre" "et 0" " by " "1;  " and bytes above 127
        y.feed(0x73747265, 0x65742030, 0x20627920, 0x313b2020, 0xe9ffff80);
        y.end(16);
        Due.is("highest byte first", y.text(3), 1);
        Due.is("beside", y.street(0, 2), 2);
        y.feed(0xe9ffff80, 0, 0, 0, 0);
        Due.is("another sign", y.text(3), -1);
        Due.is("its place", y.fault(1), 0);
    }

    private static void end() {
        AliasHouse x = new AliasHouse();
        Due.is("end(0)", x.end(0), true);
        Due.is("end(1)", x.end(1), false);
        Due.is("end(-1)", x.end(-1), false);
        Due.tape(x, "street 0 by 1;xx", 0);
        Due.is("end(17)", x.end(17), false);
        Due.is("end(-1)", x.end(-1), false);
        Due.is("end(16)", x.end(16), true);
        Due.is("end(14)", x.end(14), true);
        Due.is("not longer again", x.end(15), false);
        Due.tape(x, "street 2 by 1;", 14);
        Due.is("both lines", x.text(3), 2);
        Due.is("tape is empty", x.end(1), false);
    }

    private static void of() {
        AliasHouse x = Due.house();
        x.set(0, 2, 3);
        x.set(4, 1, 20);
        x.act(0, 1, 6);
        x.set(0, 6, 4);
        int[] want = {0, 7, 2, 6, 1, 20, 0, 300, 8, 14};
        for (int what = 0; what < 10; what++) {
            Due.is("of(1, " + what + ")", x.of(1, what), want[what]);
        }
        Due.is("what -1", x.of(1, -1), -1);
        Due.is("what 10", x.of(1, 10), -1);
        Due.is("alias -1", x.of(-1, 0), -1);
        Due.is("alias 3", x.of(3, 0), -1);
        x.set(1, 0, 9);
        Due.is("seen not below 0", x.of(1, 7), 0);
        x.set(3, 1, 9);
        Due.is("costs", x.of(1, 8), 10);
        Due.is("gains", x.of(1, 9), 18);
        Due.lines(x, 0, "seen 1000; costs 99; gains 99;", 3);
        Due.is("1000", x.of(0, 7), 1000);
        Due.is("99", x.of(0, 8), 99);
        Due.is("99", x.of(0, 9), 99);
        Due.lines(x, 0, "seen 1001; costs 100; gains 100;", 3);
        Due.is("held to 1000", x.of(0, 7), 1000);
        Due.is("held to 99", x.of(0, 8), 99);
        Due.is("held to 99", x.of(0, 9), 99);
        Due.lines(x, 0, "seen 0-1; costs 0-1; gains 0-1;", 3);
        Due.is("held to 0", x.of(0, 7), 0);
        Due.is("held to 0", x.of(0, 8), 0);
        Due.is("held to 0", x.of(0, 9), 0);
    }

    private static void who() {
        AliasHouse x = Due.house();
        x.act(0, 1, 4);
        x.act(0, 2, 4);
        Due.is("wits", x.who(0, 0), 2);
        Due.is("purse", x.who(0, 1), 100);
        Due.is("aliases", x.who(0, 2), 3);
        Due.is("out", x.who(0, 3), 2);
        Due.is("aliases of 1", x.who(1, 2), 4);
        Due.is("out of 1", x.who(1, 3), 4);
        Due.is("what -1", x.who(0, -1), -1);
        Due.is("what 4", x.who(0, 4), -1);
        Due.is("person -1", x.who(-1, 0), -1);
        Due.is("person 2", x.who(2, 0), -1);
    }

    private static void street() {
        AliasHouse x = Due.house();
        x.set(0, 4, 6);
        x.act(0, 1, 4);
        x.act(0, 2, 4);
        Due.is("eyes", x.street(4, 0), 6);
        Due.is("out in it", x.street(4, 1), 6);
        Due.is("lying is not out", x.street(1, 1), 0);
        Due.lines(x, 3, "street 4 by 9; street 0 by 4; street 9 by 4;", 3);
        Due.is("beside", x.street(4, 2), 513);
        Due.is("the other way", x.street(9, 2), 16);
        Due.is("none beside", x.street(1, 2), 0);
        Due.is("street -1", x.street(-1, 0), -1);
        Due.is("street 10", x.street(10, 0), -1);
        Due.is("what -1", x.street(0, -1), -1);
        Due.is("what 3", x.street(0, 3), -1);
    }

    private static void book() {
        AliasHouse x = Due.house();
        Due.lines(x, 0, "seen 1000; gains 0; costs 0;", 3);
        x.act(0, 0, 3);
        x.act(0, 1, 3);
        x.hours(25);
        // hour 0: a cousin for 0, both seen with another; hour 1: the same, then both struck off
        int[][] want = {
            {0, 0, 2, 0, 3}, {0, 0, 1, 0, 30}, {0, 0, 1, 1, 30},
            {0, 1, 2, 0, 3}, {0, 1, 1, 0, 60}, {0, 1, 1, 1, 60}, {0, 1, 3, 0, 60}, {0, 1, 3, 1, 60}};
        Due.is("lines", x.look(8), want.length);
        for (int i = 0; i < want.length; i++) {
            for (int what = 0; what < 5; what++) {
                Due.is("book(" + i + ", " + what + ")", x.book(i, what), want[i][what]);
            }
        }
        Due.is("line -1", x.book(-1, 0), -1);
        Due.is("line 8", x.book(8, 0), -1);
        Due.is("what -1", x.book(0, -1), -1);
        Due.is("what 5", x.book(0, 5), -1);
        fullBook();
    }

    private static void fullBook() {
        AliasHouse x = new AliasHouse();
        x.person(0, 9999);
        x.alias(0, 0, 0);
        x.alias(0, 1, 1);
        Due.lines(x, 0, "seen 0; costs 0; gains 0;", 3);
        x.act(0, 0, 7);
        x.act(0, 1, 8);
        x.hours(60);
        x.hours(60);
        x.hours(29);
        Due.is("149 lines", x.look(8), 149);
        x.hours(1);
        Due.is("150 lines", x.look(8), 150);
        x.hours(2);
        Due.is("no more then", x.look(8), 150);
        Due.is("cousins go on", x.look(3), 152);
        Due.is("last line, hour", x.book(149, 1), 5);
        Due.is("last line, day", x.book(149, 0), 6);
        Due.is("no line 150", x.book(150, 0), -1);
        x.undo();
        x.undo();
        x.undo();
        Due.is("149 again", x.look(8), 149);
        Due.is("line 149 is gone", x.book(149, 1), -1);
    }

    private static void undo() {
        AliasHouse x = Due.house();
        x.set(0, 3, 9);
        Due.lines(x, 0, "seen 1000;", 1);
        Due.lines(x, 2, "on 0 at 0 eyes 5 7; on 0 at 0 give 1 50;", 2);
        x.act(0, 0, 3);
        x.act(0, 1, 3);
        x.hours(1);
        Due.is("eyes by the diary", x.street(5, 0), 7);
        Due.is("state", x.look(9), 1196435762);
        Due.is("undo the hour", x.undo(), true);
        Due.is("state", x.look(9), 0);
        Due.is("hour", x.look(5), 0);
        Due.is("eyes", x.street(5, 0), 0);
        Due.is("purse 0", x.who(0, 1), 100);
        Due.is("purse 1", x.who(1, 1), 5);
        Due.is("seen", x.of(0, 5), 0);
        Due.is("cousins", x.look(3), 0);
        Due.is("book", x.look(8), 0);
        Due.is("still out", x.who(0, 3), 3);
        Due.is("undo a walk", x.undo(), true);
        Due.is("one out", x.who(0, 3), 1);
        Due.is("undo a walk", x.undo(), true);
        Due.is("none out", x.who(0, 3), 0);
        Due.is("home", x.of(0, 3), 1);
        Due.is("no more", x.undo(), false);
        sixAreKept();
        undoOfStrikeAndPayment();
    }

    private static void sixAreKept() {
        AliasHouse x = Due.house();
        for (int s = 0; s < 9; s++) {
            x.act(0, 0, s);
            Due.is("kept", x.look(14), Math.min(6, s + 1));
        }
        for (int s = 7; s >= 2; s--) {
            Due.is("undo", x.undo(), true);
            Due.is("street then", x.of(0, 3), s);
        }
        Due.is("no more", x.undo(), false);
        x.hours(60);
        Due.is("six hours", x.look(14), 6);
        x.undo();
        Due.is("hour 11", x.look(5), 11);
        x.act(0, 1, 0);
        Due.is("six again", x.look(14), 6);
        x.undo();
        Due.is("out again", x.of(0, 4), 1);
        for (int i = 0; i < 5; i++) {
            x.undo();
        }
        Due.is("day 2", x.look(6), 2);
        Due.is("hour 6", x.look(5), 6);
        Due.is("no more", x.undo(), false);
    }

    private static void undoOfStrikeAndPayment() {
        AliasHouse x = Due.house();
        Due.lines(x, 0, "costs 99; gains 0;", 2);
        x.set(4, 1, 70);
        x.act(0, 1, 4);
        x.act(0, 2, 4);
        Due.is("one struck", x.hours(1), 1);
        Due.is("debt", x.look(2), 94);
        x.set(2, 0, 50);
        Due.is("pay", x.act(2, 0, 0), true);
        x.act(1, 2, 0);
        Due.is("lying undone", x.undo(), true);
        Due.is("out", x.of(2, 4), 1);
        Due.is("in", x.of(2, 3), 4);
        Due.is("payment undone", x.undo(), true);
        Due.is("debt", x.look(2), 94);
        Due.is("purse", x.who(0, 1), 50);
        Due.is("book", x.look(8), 1);
        Due.is("nothing more", x.undo(), false);
        x.set(4, 2, 90);
        x.hours(1);
        Due.is("caught", x.look(4), 2);
        Due.is("struck", x.look(7), 6);
        x.undo();
        Due.is("caught", x.look(4), 1);
        Due.is("struck", x.look(7), 2);
        Due.is("day goes back", undoneDay(), 0);
    }

    private static int undoneDay() {
        AliasHouse x = Due.house();
        x.set(4, 0, 9);
        x.hours(24);
        Due.is("two less", x.of(0, 5), 7);
        x.undo();
        Due.is("nine again", x.of(0, 5), 9);
        Due.is("hour 23", x.look(5), 23);
        return x.look(6);
    }

    private static AliasHouse walked() {
        AliasHouse x = Due.house();
        x.act(0, 0, 4);
        return x;
    }

    private static void whatForgets() {
        AliasHouse x = walked();
        x.state(0);
        Due.is("state forgets", x.undo(), false);
        x = walked();
        x.person(0, 0);
        Due.is("person forgets", x.look(14), 0);
        x = walked();
        x.alias(0, 0, 0);
        Due.is("alias forgets", x.undo(), false);
        for (int what = 0; what < 5; what++) {
            x = walked();
            x.set(what, 0, 0);
            Due.is("set forgets", x.undo(), false);
        }
        x = walked();
        Due.lines(x, 1, "", 0);
        Due.is("shares forget", x.undo(), false);
        x = walked();
        Due.lines(x, 2, "", 0);
        Due.is("diary forgets", x.undo(), false);
        x = walked();
        toldWithoutForgetting(x);
        Due.is("still one", x.look(14), 1);
        Due.is("undo", x.undo(), true);
        Due.is("home", x.of(0, 4), 0);
        Due.is("law stays", x.look(10), 1);
        Due.is("streets stay", x.look(13), 1);
        Due.is("votes stay", x.vote(1), 2);
    }

    private static void toldWithoutForgetting(AliasHouse x) {
        Due.lines(x, 0, "seen 1;", 1);
        Due.lines(x, 3, "street 1 by 2;", 1);
        Due.fault(x, 1, "alias", 1, 5);
        Due.fault(x, 2, "on", 1, 2);
        x.text(7);
        x.person(10, 0);
        x.alias(9, 0, 0);
        x.set(0, 0, 10);
        x.set(9, 0, 0);
        x.act(0, 9, 9);
        x.act(2, 0, 0);
        x.hours(0);
        x.sighted(1, 1);
        x.sighted(-1, 1);
        x.pair(1, 2, true);
        x.pair(-1, 0, true);
        x.says(1, 2, true);
        x.says(-1, 0, true);
        x.vote(3);
        x.letter(0, 1);
        x.boot(30);
        x.bed(30, 31);
        x.box(1);
        x.loan(0, 1, 2);
        x.goes(5, 0);
        x.keeps(0);
        x.image(true);
    }

    private static void image() {
        AliasHouse x = walked();
        x.state(77);
        x.set(0, 0, 6);
        x.set(4, 2, 55);
        Due.is("one struck", x.hours(1), 1);
        int state = x.look(9);
        Due.lines(x, 0, "seen 1; seen 2;", 2);
        Due.lines(x, 1, "alias 0 from 2 to 3 in 5;", 1);
        Due.lines(x, 2, "on 500 at 0 lie 0;", 1);
        Due.lines(x, 3, "street 1 by 2;", 1);
        tellThoughts(x);
        x.act(0, 1, 8);
        Due.tape(x, "street", 0);
        Due.is("taken", x.image(true), true);
        Due.is("what can be undone stays", x.look(14), 1);
        Due.is("undo", x.undo(), true);
        Due.is("the tape stays", x.end(7), false);
        Due.is("the tape stays", x.end(6), true);
        for (int twice = 0; twice < 2; twice++) {
            x.end(0);
            spoil(x);
            Due.fault(x, 0, "seen", 1, 4);
            Due.tape(x, "alias", 0);
            x.act(0, 0, 1);
            Due.is("gone back to", x.image(false), true);
            Due.is("nothing to undo", x.undo(), false);
            Due.is("the tape stays", x.end(6), false);
            Due.is("the tape stays", x.end(5), true);
            Due.is("the fault stays", x.fault(1), 4);
            asTaken(x, state);
        }
    }

    private static void tellThoughts(AliasHouse x) {
        x.sighted(3, 3);
        x.pair(1, 2, true);
        x.says(1, 2, false);
        x.vote(3);
        x.letter(0, 1);
        x.letter(1, 3);
        x.boot(33);
        x.bed(33, 34);
        x.box(1);
        x.loan(0, 1, 2);
    }

    private static void asTaken(AliasHouse x, int state) {
        Due.is("state", x.look(9), state);
        Due.is("hour", x.look(5), 1);
        Due.is("caught", x.look(4), 1);
        Due.is("struck", x.look(7), 4);
        Due.is("book", x.look(8), 1);
        Due.is("book", x.book(0, 3), 2);
        Due.is("book", x.book(0, 4), 55);
        Due.is("persons", x.look(0), 2);
        Due.is("aliases", x.look(1), 3);
        for (int what = 10; what <= 13; what++) {
            Due.is("lines of a text", x.look(what), what == 10 ? 2 : 1);
        }
        Due.is("the law", x.of(0, 7), 1);
        Due.is("shares", x.least(0), 1);
        Due.is("shares", x.least(1), 2);
        Due.is("beside", x.street(1, 2), 4);
        Due.is("out", x.of(1, 3), 8);
        Due.is("eyes", x.street(8, 0), 0);
        Due.is("eyes", x.street(0, 0), 6);
        Due.is("wits", x.who(0, 0), 2);
        Due.is("sighting", x.persons(-1, 0), 1);
        Due.is("names", x.names(0), 9);
        Due.is("words", x.speakers(0), 128);
        Due.is("vote", x.swings(0, 3), 1);
        Due.is("notes", x.notes(0), 24);
        Due.is("boots", x.beds(10), 0);
        Due.is("box", x.named(1), 1);
        Due.is("loan", x.settled(0), 2);
        Due.is("sighted", x.sighted(9, 9), 2);
        Due.is("pair", x.pair(9, 8, true), 2);
        Due.is("says", x.says(7, 7, true), 2);
        Due.is("vote", x.vote(9), 2);
        Due.is("letter", x.letter(0, 9), 2);
        Due.is("letter", x.letter(1, 9), 2);
        Due.is("boot", x.boot(50), 2);
        Due.is("bed", x.bed(50, 50), 2);
        Due.is("box", x.box(9), 2);
        Due.is("loan", x.loan(5, 4, 9), 2);
    }

    /** Whatever the image holds becomes another. */
    private static void spoil(AliasHouse x) {
        Due.text(x, 0, "seen 9;");
        Due.text(x, 1, "alias 1 from 5 to 6 in 5; alias 1 from 5 to 6 in 5;");
        Due.text(x, 2, "on 500 at 0 lie 0; on 501 at 0 lie 0;");
        Due.text(x, 3, "street 3 by 4; street 3 by 5;");
        x.person(9, 9);
        x.alias(0, 9, 9);
        x.set(0, 8, 5);
        x.set(0, 0, 0);
        x.set(1, 0, 7);
        x.set(4, 0, 60);
        x.sighted(-1, 0);
        x.pair(-1, 0, true);
        x.says(-1, 0, true);
        x.vote(-1);
        x.letter(0, -1);
        x.letter(1, -1);
        x.boot(-1);
        x.bed(-1, 0);
        x.box(-1);
        x.loan(-1, 0, 0);
        x.hours(3);
    }

    /** THE BOOK of the image is its own: other lines are written here in the place of those that were undone. */
    private static void imageOfTheBook() {
        AliasHouse x = Due.house();
        x.set(4, 0, 51);
        x.hours(1);
        x.image(true);
        x.undo();
        x.set(4, 0, 0);
        x.set(4, 1, 77);
        x.hours(5);
        Due.is("another line", x.book(0, 4), 77);
        x.image(false);
        Due.is("one line", x.look(8), 1);
        Due.is("who", x.book(0, 3), 0);
        Due.is("how much", x.book(0, 4), 51);
    }

    private static void look() {
        AliasHouse x = Due.house();
        Due.is("persons", x.look(0), 2);
        Due.is("aliases", x.look(1), 3);
        x.set(4, 0, 51);
        x.set(4, 2, 60);
        Due.is("two struck", x.hours(2), 2);
        Due.is("caught", x.look(4), 2);
        Due.is("hour", x.look(5), 2);
        Due.is("struck", x.look(7), 5);
        Due.is("book", x.look(8), 2);
        x.hours(60);
        Due.is("day", x.look(6), 2);
        Due.is("hour", x.look(5), 14);
        Due.is("look(-1)", x.look(-1), -1);
        Due.is("look(15)", x.look(15), -1);
        Due.is("look asks nothing", x.look(14), 6);
    }

    /** No call may throw, whatever the arguments. */
    private static void extremes() {
        int[] odd = {Integer.MIN_VALUE, Integer.MIN_VALUE + 1, -1000, -2, -1, 0, 1, 10, 1000, Integer.MAX_VALUE - 1, Integer.MAX_VALUE};
        for (int a : odd) {
            for (int b : odd) {
                AliasHouse x = Due.house();
                two(x, a, b);
                for (int c : odd) {
                    three(x, a, b, c);
                }
            }
        }
    }

    private static void two(AliasHouse x, int a, int b) {
        x.person(a, b);
        x.of(a, b);
        x.who(a, b);
        x.street(a, b);
        x.book(a, b);
        x.goes(a, b);
        x.keeps(a);
        x.sighted(a, b);
        x.persons(a, b);
        x.pair(a, b, true);
        x.names(a);
        x.says(a, b, false);
        x.speakers(a);
        x.vote(a);
        x.swings(a, b);
        x.least(a);
        x.letter(a, b);
        x.notes(a);
        x.boot(a);
        x.bed(a, b);
        x.beds(a);
        x.box(a);
        x.named(a);
        x.net(a, b);
        x.settled(a);
        x.look(a);
        x.fault(a);
        x.end(a);
        x.text(a);
        x.feed(a, b, a, b, a);
        x.hours(a);
    }

    private static void three(AliasHouse x, int a, int b, int c) {
        x.alias(a, b, c);
        x.set(a, b, c);
        x.act(a, b, c);
        x.birthdays(a, b, c);
        x.hoop(a, b, c);
        x.loan(a, b, c);
        x.game(a, b, c);
    }
}
