/** Promises 18 to 39: what is told for thought, and what is found out of it. */
final class ThoughtTest {
    private ThoughtTest() {
    }

    public static void main(String[] args) {
        sighted();
        persons();
        tenInARow();
        pair();
        names();
        says();
        speakers();
        vote();
        swings();
        coats();
        watch();
        birthdays();
        letter();
        notes();
        bootAndBed();
        beds();
        box();
        named();
        net();
        hoop();
        loan();
        settled();
        game();
        Due.finish("ThoughtTest");
    }

    private static void sighted() {
        AliasHouse x = new AliasHouse();
        Due.is("minute -2", x.sighted(-2, 0), -1);
        Due.is("minute 100", x.sighted(100, 0), -1);
        Due.is("street -1", x.sighted(0, -1), -1);
        Due.is("street 10", x.sighted(0, 10), -1);
        for (int i = 1; i <= 10; i++) {
            Due.is("sighted", x.sighted(i == 1 ? 99 : 0, i == 2 ? 9 : 0), i);
        }
        Due.is("eleventh", x.sighted(0, 0), -1);
        Due.is("none then, whatever the street", x.sighted(-1, 99), 0);
        Due.is("persons", x.persons(-1, 0), 0);
        Due.is("first again", x.sighted(0, 0), 1);
    }

    private static void persons() {
        AliasHouse x = new AliasHouse();
        Due.is("none", x.persons(-1, 77), 0);
        Due.is("a -2", x.persons(-2, 0), -1);
        Due.is("a 10", x.persons(10, 0), -1);
        Due.is("b -1", x.persons(0, -1), -1);
        Due.is("b 10", x.persons(0, 10), -1);
        Due.is("no street 10", x.persons(10, 10), -1);
        Due.is("no street 11", x.persons(11, 11), -1);
        Due.is("no street 32", x.persons(0, 32), -1);
        Due.is("no street 32", x.persons(32, 0), -1);
        Due.is("alike", x.persons(9, 9), 0);
        Due.is("no way", x.persons(0, 9), -1);
        StringBuilder chain = new StringBuilder();
        for (int s = 0; s < 9; s++) {
            chain.append("street ").append(s + 1).append(" by ").append(s).append(";");
        }
        Due.lines(x, 3, chain.toString(), 9);
        Due.is("way", x.persons(0, 9), 45);
        Due.is("back", x.persons(9, 0), 45);
        Due.is("one step", x.persons(3, 4), 5);
        x.text(3);
        Due.lines(x, 3, chain + "street 0 by 8;", 10);
        Due.is("the short way", x.persons(0, 9), 10);
        meetings();
    }

    private static void meetings() {
        AliasHouse x = new AliasHouse();
        Due.lines(x, 3, "street 0 by 1; street 1 by 2;", 2);
        x.sighted(10, 0);
        Due.is("one", x.persons(-1, 0), 1);
        x.sighted(10, 0);
        Due.is("at one place at one minute", x.persons(-1, 0), 1);
        x.sighted(20, 2);
        Due.is("just there", x.persons(-1, 0), 1);
        x.sighted(24, 1);
        Due.is("too late", x.persons(-1, 0), 2);
        x.sighted(5, 1);
        Due.is("told in any order", x.persons(-1, 0), 2);
        x.sighted(0, 9);
        Due.is("no way there", x.persons(-1, 0), 3);
        x.sighted(-1, 0);
        // who takes the nearest first would need three
        x.sighted(0, 0);
        x.sighted(0, 2);
        x.sighted(5, 1);
        x.sighted(10, 0);
        x.sighted(10, 2);
        Due.is("two", x.persons(-1, 0), 2);
        x.sighted(10, 1);
        Due.is("three", x.persons(-1, 0), 3);
        x.text(3);
        Due.is("without streets: one in each", x.persons(-1, 0), 3);
        x.sighted(4, 3);
        Due.is("a fourth", x.persons(-1, 0), 4);
    }

    private static void tenInARow() {
        for (int turn = 0; turn < 2; turn++) {
            AliasHouse x = new AliasHouse();
            Due.lines(x, 3, "street 0 by 1;", 1);
            for (int i = 0; i < 10; i++) {
                int place = turn == 0 ? i : 9 - i;
                x.sighted(5 * place, place % 2);
            }
            Due.is("one saw all ten", x.persons(-1, 0), 1);
            x.text(3);
            Due.is("two did", x.persons(-1, 0), 2);
        }
    }

    private static void pair() {
        AliasHouse x = new AliasHouse();
        Due.is("a -2", x.pair(-2, 0, true), -1);
        Due.is("a 10", x.pair(10, 0, true), -1);
        Due.is("b -1", x.pair(0, -1, true), -1);
        Due.is("b 10", x.pair(0, 10, true), -1);
        Due.is("alike", x.pair(4, 4, false), -1);
        for (int i = 1; i <= 12; i++) {
            Due.is("pair", x.pair(i % 9, 9, true), i);
        }
        Due.is("thirteenth", x.pair(0, 1, true), -1);
        Due.is("all one", x.names(0), 1);
        Due.is("none then", x.pair(-1, 99, true), 0);
        Due.is("ten", x.names(0), 10);
        Due.is("first again", x.pair(0, 1, true), 1);
    }

    private static void names() {
        AliasHouse x = new AliasHouse();
        Due.is("what -1", x.names(-1), -1);
        Due.is("what 3", x.names(3), -1);
        Due.is("ten", x.names(0), 10);
        Due.is("can be", x.names(1), 1);
        Due.is("one person", x.names(2), 1);
        x.pair(8, 9, true);
        x.pair(1, 0, true);
        x.pair(9, 1, true);
        x.pair(0, 8, true);
        Due.is("seven", x.names(0), 7);
        x.pair(2, 3, false);
        x.pair(3, 4, false);
        x.pair(4, 5, false);
        x.pair(5, 6, false);
        Due.is("two persons", x.names(2), 2);
        x.pair(6, 2, false);
        Due.is("a ring of five: three", x.names(2), 3);
        Due.is("still seven", x.names(0), 7);
        x.pair(8, 0, false);
        Due.is("can't be", x.names(1), 0);
        Due.is("none", x.names(2), -1);
        Due.is("groups all the same", x.names(0), 7);
        x.pair(-1, 0, true);
        Due.is("none is apart now", x.names(2), 1);
        x.pair(0, 1, false);
        Due.is("two", x.names(2), 2);
        x.pair(9, 1, false);
        x.pair(0, 9, false);
        Due.is("three", x.names(2), 3);
        x.pair(-1, 0, true);
        x.pair(0, 2, false);
        x.pair(2, 3, false);
        x.pair(3, 1, false);
        Due.is("0 and 1 are not to be one: two", x.names(2), 2);
        x.pair(-1, 0, true);
        for (int a = 0; a < 4; a++) {
            for (int b = a + 1; b < 5; b++) {
                x.pair(a + 5, b + 5, false);
            }
        }
        Due.is("all five apart", x.names(2), 5);
        x.pair(0, 5, true);
        x.pair(0, 6, true);
        Due.is("can't be", x.names(2), -1);
    }

    private static void says() {
        AliasHouse x = new AliasHouse();
        Due.is("a -2", x.says(-2, 0, true), -1);
        Due.is("a 8", x.says(8, 0, true), -1);
        Due.is("b -1", x.says(0, -1, true), -1);
        Due.is("b 8", x.says(0, 8, true), -1);
        for (int i = 1; i <= 10; i++) {
            Due.is("says", x.says(7, 0, true), i);
        }
        Due.is("eleventh", x.says(0, 0, true), -1);
        Due.is("none then", x.says(-1, 99, true), 0);
        Due.is("all ways", x.speakers(0), 256);
        Due.is("first again", x.says(7, 7, false), 1);
        Due.is("no way", x.speakers(0), 0);
    }

    private static void speakers() {
        AliasHouse x = new AliasHouse();
        Due.is("what -1", x.speakers(-1), -1);
        Due.is("what 3", x.speakers(3), -1);
        Due.is("ways", x.speakers(0), 256);
        Due.is("most", x.speakers(1), 8);
        Due.is("sure", x.speakers(2), 0);
        x.says(0, 1, true);
        x.says(1, 2, false);
        Due.is("0 and 1 alike, 2 not", x.speakers(0), 64);
        Due.is("most", x.speakers(1), 7);
        x.says(3, 3, true);
        Due.is("says nothing", x.speakers(0), 64);
        x.says(5, 6, false);
        x.says(6, 5, false);
        Due.is("one of two", x.speakers(0), 32);
        Due.is("most", x.speakers(1), 6);
        Due.is("sure of none: each word can be turned about", x.speakers(2), 0);
        x.says(6, 6, false);
        Due.is("no way", x.speakers(0), 0);
        Due.is("most: none", x.speakers(1), -1);
        Due.is("sure: none", x.speakers(2), 0);
    }

    private static void vote() {
        AliasHouse x = new AliasHouse();
        Due.is("0", x.vote(0), -1);
        Due.is("-2", x.vote(-2), -1);
        Due.is("31", x.vote(31), -1);
        Due.is("1", x.vote(1), 1);
        Due.is("30", x.vote(30), 2);
        for (int i = 3; i <= 6; i++) {
            Due.is("vote", x.vote(2), i);
        }
        Due.is("seventh", x.vote(2), -1);
        Due.is("none then", x.vote(-1), 0);
        Due.is("no voter", x.swings(0, 1), -1);
        Due.is("first again", x.vote(2), 1);
    }

    private static void swings() {
        AliasHouse x = new AliasHouse();
        Due.is("none", x.swings(-1, 1), 0);
        x.vote(4);
        x.vote(3);
        x.vote(2);
        x.vote(1);
        Due.is("q 0", x.swings(0, 0), -1);
        Due.is("q 181", x.swings(0, 181), -1);
        Due.is("q 0 of all", x.swings(-1, 0), -1);
        Due.is("i -2", x.swings(-2, 6), -1);
        Due.is("i 4", x.swings(4, 6), -1);
        // of 3, 2, 1: 2, 3, 2+1, 3+1, 3+2 come to 2 .. 5
        Due.is("4 of q 6", x.swings(0, 6), 5);
        Due.is("3 of q 6", x.swings(1, 6), 3);
        Due.is("2 of q 6", x.swings(2, 6), 3);
        Due.is("1 of q 6", x.swings(3, 6), 1);
        Due.is("each swings", x.swings(-1, 6), 0);
        Due.is("q 10: all are needed", x.swings(3, 10), 1);
        Due.is("q 11: none", x.swings(0, 11), 0);
        Due.is("q 180: four never", x.swings(-1, 180), 4);
        Due.is("q 1: alone", x.swings(3, 1), 1);
        x.vote(-1);
        x.vote(5);
        x.vote(5);
        x.vote(1);
        Due.is("1 never swings", x.swings(-1, 10), 1);
        Due.is("5 does", x.swings(0, 10), 2);
    }

    private static void coats() {
        AliasHouse x = new AliasHouse();
        x.person(0, 0);
        x.alias(0, 0, 0);
        x.alias(0, 0, 0);
        Due.is("what -1", x.least(-1), -1);
        Due.is("what 4", x.least(4), -1);
        Due.is("none", x.least(0), 0);
        Due.is("none", x.least(1), 0);
        Due.lines(x, 1, "alias 0 from 5 to 7 in 1; alias 0 from 8 to 9 in 2;", 2);
        Due.is("one coat", x.least(0), 1);
        Due.is("at 5", x.least(1), 5);
        Due.lines(x, 1, "alias 0 from 5 to 8 in 1; alias 0 from 8 to 9 in 2; alias 1 from 20 to 23 in 2; alias 1 from 23 to 23 in 2;", 4);
        Due.is("two coats", x.least(0), 2);
        Due.is("at 8", x.least(1), 8);
        Due.lines(x, 1, "alias 0 from 0 to 23 in 1; alias 0 from 0 to 23 in 2; alias 1 from 23 to 23 in 2;", 3);
        Due.is("three coats", x.least(0), 3);
        Due.is("at 23", x.least(1), 23);
        Due.lines(x, 1, "alias 0 from 1 to 2 in 1; alias 0 from 0 to 0 in 2; alias 1 from 0 to 0 in 2;", 3);
        Due.is("at 0", x.least(1), 0);
        Due.is("two coats", x.least(0), 2);
        Due.lines(x, 1, "alias 0 from 0 to 23 in 1; alias 0 from 0 to 23 in 2; alias 1 from 23 to 23 in 2;", 3);
        Due.is("at 23", x.least(1), 23);
    }

    private static void watch() {
        AliasHouse x = new AliasHouse();
        Due.is("ten", x.least(2), 10);
        Due.is("all", x.least(3), 1023);
        Due.lines(x, 3, "street 5 by 0;street 5 by 1;street 5 by 2;street 5 by 3;street 5 by 4;street 5 by 6;street 5 by 7;street 5 by 8;street 5 by 9;", 9);
        Due.is("one", x.least(2), 1);
        Due.is("5", x.least(3), 32);
        Due.lines(x, 3, "street 0 by 1;street 2 by 3;street 4 by 5;street 6 by 7;street 8 by 9;", 5);
        Due.is("five", x.least(2), 5);
        Due.is("the least", x.least(3), 0b0101010101);
        Due.lines(x, 3, "street 0 by 1;street 1 by 2;street 2 by 3;street 3 by 4;street 4 by 5;street 5 by 6;street 6 by 7;street 7 by 8;street 8 by 9;street 9 by 0;", 10);
        Due.is("a ring: four", x.least(2), 4);
        Due.is("the least", x.least(3), 0b0010010011);
    }

    private static void birthdays() {
        AliasHouse x = new AliasHouse();
        Due.is("n 0", x.birthdays(0, 5, 0), -1);
        Due.is("n 9", x.birthdays(9, 5, 0), -1);
        Due.is("d 0", x.birthdays(2, 0, 0), -1);
        Due.is("d 21", x.birthdays(2, 21, 0), -1);
        Due.is("what -1", x.birthdays(2, 5, -1), -1);
        Due.is("what 2", x.birthdays(2, 5, 2), -1);
        Due.is("one: 0", x.birthdays(1, 20, 0), 0);
        Due.is("one: by 1", x.birthdays(1, 20, 1), 1);
        Due.is("3 in 6: 4", x.birthdays(3, 6, 0), 4);
        Due.is("3 in 6: by 9", x.birthdays(3, 6, 1), 9);
        Due.is("2 in 1: 1", x.birthdays(2, 1, 0), 1);
        Due.is("2 in 1: by 1", x.birthdays(2, 1, 1), 1);
        Due.is("8 in 7: 1", x.birthdays(8, 7, 0), 1);
        Due.is("8 in 8: above", x.birthdays(8, 8, 0), 131072 - 315);
        Due.is("8 in 8: below", x.birthdays(8, 8, 1), 131072);
        Due.is("8 in 19: below", x.birthdays(8, 19, 1), 893871739);
        Due.is("8 in 19: above", x.birthdays(8, 19, 0), 893871739 - 18 * 17 * 16 * 15 * 14 * 13 * 12);
        Due.is("8 in 20: below", x.birthdays(8, 20, 1), 4000000);
        Due.is("8 in 20: above", x.birthdays(8, 20, 0), 3206389);
    }

    private static void letter() {
        AliasHouse x = new AliasHouse();
        Due.is("note -1", x.letter(-1, 0), -1);
        Due.is("note 2", x.letter(2, 0), -1);
        Due.is("note 2, none", x.letter(2, -1), -1);
        Due.is("letter -2", x.letter(0, -2), -1);
        Due.is("letter 26", x.letter(0, 26), -1);
        for (int note = 0; note < 2; note++) {
            for (int i = 1; i <= 12; i++) {
                Due.is("letter", x.letter(note, i % 2 * 25), i);
            }
            Due.is("thirteenth", x.letter(note, 0), -1);
        }
        Due.is("empty", x.letter(0, -1), 0);
        Due.is("the other stays", x.letter(1, 3), -1);
        Due.is("first again", x.letter(0, 3), 1);
    }

    private static void tell(AliasHouse x, String is, String was) {
        x.letter(0, -1);
        x.letter(1, -1);
        for (char c : is.toCharArray()) {
            x.letter(0, c - 'a');
        }
        for (char c : was.toCharArray()) {
            x.letter(1, c - 'a');
        }
    }

    private static void notes() {
        AliasHouse x = new AliasHouse();
        Due.is("what -1", x.notes(-1), -1);
        Due.is("what 2", x.notes(2), -1);
        Due.is("both empty", x.notes(0), 0);
        Due.is("both empty", x.notes(1), 1);
        tell(x, "bcd", "abc");
        Due.is("one behind", x.notes(0), 1);
        tell(x, "abc", "bcd");
        Due.is("25 behind", x.notes(0), 25);
        tell(x, "azb", "zya");
        Due.is("over z", x.notes(0), 1);
        tell(x, "azc", "zya");
        Due.is("unlike", x.notes(0), -1);
        tell(x, "bz", "az");
        Due.is("unlike at the end", x.notes(0), -1);
        tell(x, "ab", "abc");
        Due.is("shorter", x.notes(0), -1);
        Due.is("shorter", x.notes(1), 0);
        tell(x, "", "a");
        Due.is("one empty", x.notes(0), -1);
        Due.is("one empty", x.notes(1), 0);
        tell(x, "abcd", "dcba");
        Due.is("mirror", x.notes(1), 1);
        Due.is("no shift", x.notes(0), -1);
        tell(x, "abcd", "dcaa");
        Due.is("no mirror", x.notes(1), 0);
        tell(x, "abcd", "dcbb");
        Due.is("the first alone", x.notes(1), 0);
        tell(x, "abcd", "ecba");
        Due.is("the last alone", x.notes(1), 0);
        tell(x, "abcd", "abcd");
        Due.is("no mirror", x.notes(1), 0);
        Due.is("no shift is 0", x.notes(0), 0);
        tell(x, "abcba", "abcba");
        Due.is("mirror", x.notes(1), 1);
    }

    private static void bootAndBed() {
        AliasHouse x = new AliasHouse();
        Due.is("29", x.boot(29), -1);
        Due.is("51", x.boot(51), -1);
        Due.is("-2", x.boot(-2), -1);
        Due.is("0", x.boot(0), -1);
        for (int i = 1; i <= 8; i++) {
            Due.is("boot", x.boot(i % 2 == 0 ? 30 : 50), i);
        }
        Due.is("ninth", x.boot(40), -1);
        Due.is("29", x.bed(29, 40), -1);
        Due.is("-2", x.bed(-2, 40), -1);
        Due.is("51", x.bed(40, 51), -1);
        Due.is("longest below", x.bed(41, 40), -1);
        for (int i = 1; i <= 8; i++) {
            Due.is("bed", x.bed(i % 2 == 0 ? 30 : 50, 50), i);
        }
        Due.is("ninth", x.bed(30, 40), -1);
        Due.is("all", x.beds(0), 8);
        Due.is("no boot then", x.boot(-1), 0);
        Due.is("none", x.beds(0), 0);
        Due.is("first again", x.boot(40), 1);
        Due.is("no bed then", x.bed(-1, 99), 0);
        Due.is("none", x.beds(10), -1);
        Due.is("first again", x.bed(40, 40), 1);
        Due.is("a bed", x.beds(10), 0);
    }

    private static void bedsDue(AliasHouse x, int... want) {
        int count = 0;
        for (int i = 0; i < want.length; i++) {
            Due.is("bed of boot " + i, x.beds(10 + i), want[i]);
            count += want[i] >= 0 ? 1 : 0;
        }
        Due.is("how many", x.beds(0), count);
        Due.is("no such boot", x.beds(10 + want.length), -1);
        Due.is("no such boot", x.beds(9), -1);
    }

    private static void beds() {
        AliasHouse x = new AliasHouse();
        Due.is("none", x.beds(0), 0);
        x.boot(40);
        x.boot(41);
        Due.is("what -1", x.beds(-1), -1);
        Due.is("what 1", x.beds(1), -1);
        Due.is("what 9", x.beds(9), -1);
        Due.is("what 12", x.beds(12), -1);
        x.bed(41, 41);
        bedsDue(x, -1, 0);
        x.bed(30, 50);
        bedsDue(x, 1, 0);
        x.bed(30, 50);
        bedsDue(x, 1, 0);
        x.bed(-1, 0);
        x.bed(40, 50);
        x.bed(40, 40);
        // boot 0 leaves bed 0 to boot 1, that two find a bed
        bedsDue(x, 1, 0);
        x.boot(42);
        // one bed for both 1 and 2: the first boot has it
        bedsDue(x, 1, 0, -1);
        x.bed(-1, 0);
        x.bed(42, 43);
        x.bed(41, 42);
        x.bed(40, 41);
        bedsDue(x, 2, 1, 0);
        x.boot(-1);
        x.boot(50);
        x.boot(43);
        x.boot(42);
        bedsDue(x, -1, 0, 1);
        x.bed(-1, 0);
        x.boot(-1);
        for (int i = 0; i < 8; i++) {
            x.boot(30 + i);
            x.bed(30, 37 - i);
        }
        bedsDue(x, 7, 6, 5, 4, 3, 2, 1, 0);
    }

    private static void box() {
        AliasHouse x = new AliasHouse();
        Due.is("-2", x.box(-2), -1);
        Due.is("26", x.box(26), -1);
        for (int i = 1; i <= 10; i++) {
            Due.is("box", x.box(i == 1 ? 25 : 0), i);
        }
        Due.is("eleventh", x.box(0), -1);
        Due.is("two letters", x.named(1), 2);
        Due.is("none then", x.box(-1), 0);
        Due.is("no letter", x.named(1), 0);
        Due.is("first again", x.box(3), 1);
    }

    private static void named() {
        AliasHouse x = new AliasHouse();
        Due.is("k -1", x.named(-1), -1);
        Due.is("k 6", x.named(6), -1);
        Due.is("the empty row", x.named(0), 1);
        Due.is("none", x.named(5), 0);
        for (int letter : new int[] {0, 0, 0, 1, 1, 2}) {
            x.box(letter);
        }
        // a a a b b c
        int[] want = {1, 3, 8, 19, 38, 60};
        for (int k = 0; k <= 5; k++) {
            Due.is("named(" + k + ")", x.named(k), want[k]);
        }
        x.box(-1);
        for (int letter = 16; letter < 26; letter++) {
            x.box(letter);
        }
        Due.is("all unlike", x.named(5), 30240);
        x.box(-1);
        x.box(7);
        x.box(7);
        Due.is("two of one", x.named(2), 1);
        Due.is("no three", x.named(3), 0);
    }

    private static void net() {
        AliasHouse x = new AliasHouse();
        Due.is("w 0", x.net(0, 0), -1);
        Due.is("w 11", x.net(11, 0), -1);
        Due.is("what -1", x.net(1, -1), -1);
        Due.is("what 2", x.net(1, 2), -1);
        Due.is("none", x.net(10, 0), 0);
        Due.is("none: 0", x.net(1, 1), 0);
        x.person(0, 0);
        for (int home : new int[] {2, 4, 5, 9, 9}) {
            x.alias(0, 0, home);
        }
        Due.is("two in 9", x.net(1, 0), 2);
        Due.is("9", x.net(1, 1), 9);
        Due.is("two in a net of two", x.net(2, 0), 2);
        Due.is("the first", x.net(2, 1), 4);
        Due.is("three in a net of four", x.net(4, 0), 3);
        Due.is("from 2", x.net(4, 1), 2);
        Due.is("all", x.net(10, 0), 5);
        Due.is("from 0", x.net(10, 1), 0);
        x.act(0, 0, 9);
        Due.is("where it is out", x.net(1, 0), 3);
        x.set(4, 3, 60);
        x.set(4, 4, 60);
        Due.lines(x, 0, "seen 0;", 1);
        x.hours(1);
        Due.is("struck ones are not caught", x.net(1, 0), 1);
        Due.is("4", x.net(1, 1), 4);
    }

    private static void hoop() {
        AliasHouse x = new AliasHouse();
        Due.is("n 0", x.hoop(0, 1, 0), -1);
        Due.is("n 61", x.hoop(61, 1, 0), -1);
        Due.is("k 0", x.hoop(1, 0, 0), -1);
        Due.is("k 61", x.hoop(1, 61, 0), -1);
        Due.is("what -1", x.hoop(6, 4, -1), -1);
        Due.is("what 2", x.hoop(6, 4, 2), -1);
        Due.is("12 by 5", x.hoop(12, 5, 0), 12);
        Due.is("12 by 5", x.hoop(12, 5, 1), 7);
        Due.is("12 by 8", x.hoop(12, 8, 0), 3);
        Due.is("12 by 8", x.hoop(12, 8, 1), 4);
        Due.is("12 by 30", x.hoop(12, 30, 0), 2);
        Due.is("12 by 30", x.hoop(12, 30, 1), 6);
        Due.is("1 by 60", x.hoop(1, 60, 0), 1);
        Due.is("1 by 60", x.hoop(1, 60, 1), 0);
        Due.is("60 by 1", x.hoop(60, 1, 0), 60);
        Due.is("60 by 1", x.hoop(60, 1, 1), 59);
    }

    private static void loan() {
        AliasHouse x = new AliasHouse();
        Due.is("of -2", x.loan(-2, 0, 1), -1);
        Due.is("of 6", x.loan(6, 0, 1), -1);
        Due.is("to -1", x.loan(0, -1, 1), -1);
        Due.is("to 6", x.loan(0, 6, 1), -1);
        Due.is("alike", x.loan(3, 3, 1), -1);
        Due.is("v 0", x.loan(0, 1, 0), -1);
        Due.is("v 100", x.loan(0, 1, 100), -1);
        for (int i = 1; i <= 8; i++) {
            Due.is("loan", x.loan(5, 0, i % 2 == 0 ? 99 : 1), i);
        }
        Due.is("ninth", x.loan(0, 1, 1), -1);
        Due.is("none then", x.loan(-1, 9, 0), 0);
        Due.is("even", x.settled(5), 0);
        Due.is("first again", x.loan(0, 1, 1), 1);
    }

    private static void settled() {
        AliasHouse x = new AliasHouse();
        Due.is("who -2", x.settled(-2), -10000);
        Due.is("who 6", x.settled(6), -10000);
        Due.is("no gifts", x.settled(-1), 0);
        x.loan(0, 1, 10);
        x.loan(2, 3, 10);
        Due.is("two gifts", x.settled(-1), 2);
        x.loan(1, 2, 10);
        Due.is("0", x.settled(0), 10);
        Due.is("1", x.settled(1), 0);
        Due.is("2", x.settled(2), 0);
        Due.is("3", x.settled(3), -10);
        Due.is("one gift", x.settled(-1), 1);
        x.loan(-1, 0, 0);
        // 0: 5, 1: 7, 2: -3, 3: -2, 4: -7, 5: 0: two groups that are even among themselves
        x.loan(0, 2, 3);
        x.loan(0, 3, 2);
        x.loan(1, 4, 7);
        Due.is("three gifts", x.settled(-1), 3);
        x.loan(5, 0, 1);
        x.loan(1, 5, 1);
        Due.is("0", x.settled(0), 4);
        Due.is("1", x.settled(1), 8);
        Due.is("5", x.settled(5), 0);
        Due.is("four gifts", x.settled(-1), 4);
    }

    private static void game() {
        AliasHouse x = new AliasHouse();
        Due.is("a -1", x.game(-1, 0, 0), -1);
        Due.is("a 41", x.game(41, 0, 0), -1);
        Due.is("b -1", x.game(0, -1, 0), -1);
        Due.is("b 41", x.game(0, 41, 0), -1);
        Due.is("what -1", x.game(3, 3, -1), -1);
        Due.is("what 2", x.game(3, 3, 2), -1);
        int[][] lost = {{0, 0}, {1, 2}, {3, 5}, {4, 7}, {6, 10}, {8, 13}, {9, 15}, {11, 18}, {12, 20}, {14, 23}, {16, 26}, {17, 28}, {19, 31}, {21, 34}, {22, 36}, {24, 39}};
        for (int[] piles : lost) {
            Due.is("lost", x.game(piles[0], piles[1], 0), -1);
            Due.is("lost", x.game(piles[1], piles[0], 1), -1);
        }
        take(x, 0, 40, 0, 40);
        take(x, 40, 0, 40, 0);
        take(x, 1, 1, 1, 1);
        take(x, 2, 2, 0, 1);
        take(x, 5, 5, 0, 2);
        take(x, 4, 6, 1, 1);
        take(x, 40, 40, 40, 40);
        take(x, 40, 38, 35, 35);
        take(x, 7, 5, 0, 1);
        take(x, 10, 9, 0, 3);
        take(x, 9, 10, 3, 0);
        take(x, 24, 40, 0, 1);
    }

    private static void take(AliasHouse x, int a, int b, int first, int second) {
        Due.is("game(" + a + ", " + b + ", 0)", x.game(a, b, 0), first);
        Due.is("game(" + a + ", " + b + ", 1)", x.game(a, b, 1), second);
    }
}
