import java.math.BigInteger;
import java.util.Arrays;
import java.util.Set;
import java.util.TreeSet;

/** The edges that the document names of what is told for thought, and of what is found out of it: Terms 4; promises 18 to 39. */
final class EdgeThoughtTest {
    private static final int MIN = Integer.MIN_VALUE;
    private static final int MAX = Integer.MAX_VALUE;

    private EdgeThoughtTest() {
    }

    public static void main(String[] args) {
        sighted();
        sightedNoneThen();
        personsAndWays();
        wayInARow();
        wayByTheShortest();
        fiveMinutesEach();
        thereAsHeComes();
        fewestOfTen();
        pair();
        pairNoneThen();
        names();
        groups();
        whetherItCanBe();
        fewest();
        fewestOfGroups();
        says();
        saysNoneThen();
        speakers();
        mostOfTenWords();
        vote();
        voteNoneThen();
        swings();
        swingsOfLess();
        swingsOfAll();
        neverSwing();
        coats();
        coatsOfSixteen();
        firstHourOfMost();
        watch();
        watchOfSeveral();
        least();
        birthdays();
        birthdaysBounds();
        letter();
        letterNoneThen();
        shift();
        shiftUnlike();
        mirror();
        notes();
        boot();
        bed();
        bootAndBedNoneThen();
        fits();
        bedOfBoot();
        bedsFull();
        bedsWhat();
        box();
        boxNoneThen();
        named();
        namedBounds();
        net();
        netBounds();
        netOfStruckOnes();
        hoop();
        hoopBounds();
        loan();
        loanNoneThen();
        settled();
        fewestGifts();
        game();
        gameBounds();
        nothingOfItStays();
        Due.finish("EdgeThoughtTest");
    }

    /** A house with these streets beside one another, two numbers a line. */
    private static AliasHouse streets(int... pairs) {
        AliasHouse x = new AliasHouse();
        StringBuilder text = new StringBuilder();
        for (int i = 0; i < pairs.length; i += 2) {
            text.append("street ").append(pairs[i]).append(" by ").append(pairs[i + 1]).append(";");
        }
        Due.lines(x, 3, text.toString(), pairs.length / 2);
        return x;
    }

    private static AliasHouse row() {
        return streets(0, 1, 1, 2, 2, 3, 3, 4, 4, 5, 5, 6, 6, 7, 7, 8, 8, 9);
    }

    // AT ONCE

    private static void sighted() {
        Due.says("Promise 18", "A sighting (minute 0 .. 99, STREET): how many; NONE if one can't be, or there are ten");
        AliasHouse x = new AliasHouse();
        int[][] wrong = {{-2, 0}, {100, 0}, {MIN, 0}, {MAX, 0}, {0, -1}, {0, 10}, {0, MIN}, {0, MAX}, {99, 10}, {100, 9}};
        for (int i = 0; i < 10; i++) {
            for (int[] w : wrong) {
                Due.is("sighted(" + w[0] + ", " + w[1] + ")", x.sighted(w[0], w[1]), -1);
            }
            Due.is("none came", x.persons(-1, 0), i);
            Due.is("sighted(" + 11 * i + ", " + i + ")", x.sighted(11 * i, i), i + 1);
        }
        Due.is("ten of them", x.persons(-1, 0), 10);
        Due.is("the eleventh", x.sighted(0, 0), -1);
        Due.is("the eleventh", x.sighted(99, 9), -1);
        Due.is("can't be either", x.sighted(100, 9), -1);
        Due.is("ten as before", x.persons(-1, 0), 10);
    }

    private static void sightedNoneThen() {
        Due.says("Promise 18", "minute NONE: none is then");
        AliasHouse x = new AliasHouse();
        for (int street : new int[] {0, 9, -1, 10, MIN, MAX}) {
            Due.is("of none", x.sighted(-1, street), 0);
            x.sighted(0, 0);
            x.sighted(0, 1);
            Due.is("two", x.persons(-1, 0), 2);
            Due.is("sighted(-1, " + street + ")", x.sighted(-1, street), 0);
            Due.is("none", x.persons(-1, 0), 0);
        }
        for (int turn = 0; turn < 2; turn++) {
            for (int i = 1; i <= 10; i++) {
                Due.is("ten can be told again", x.sighted(0, 0), i);
            }
            Due.is("no more", x.sighted(0, 0), -1);
            Due.is("of ten", x.sighted(-1, 0), 0);
        }
    }

    private static void personsAndWays() {
        Due.says("Promise 19", "PERSONS (a NONE); WAY of two STREETS (alike: 0). NONE if there is none, or one can't be");
        AliasHouse x = row();
        x.sighted(0, 0);
        for (int b : new int[] {0, 9, -1, 10, MIN, MAX}) {
            Due.is("persons(-1, " + b + ")", x.persons(-1, b), 1);
        }
        int[] wrong = {-2, 10, 11, MIN, MAX};
        for (int w : wrong) {
            Due.is("persons(" + w + ", 0)", x.persons(w, 0), -1);
            Due.is("persons(" + w + ", 9)", x.persons(w, 9), -1);
            Due.is("persons(0, " + w + ")", x.persons(0, w), -1);
            Due.is("alike, but no STREET: " + w, x.persons(w, w), -1);
        }
        Due.is("persons(0, -1)", x.persons(0, -1), -1);
        AliasHouse none = new AliasHouse();
        for (int s = 0; s <= 9; s++) {
            Due.is("alike", none.persons(s, s), 0);
            Due.is("none", none.persons(s, 9 - s), -1);
        }
    }

    private static void wayInARow() {
        Due.says("Promise 19, Terms 4", "one goes from STREET to STREET by those beside one another, 5 minutes each: WAY: minutes (NONE)");
        AliasHouse x = row();
        for (int a = 0; a <= 9; a++) {
            for (int b = 0; b <= 9; b++) {
                Due.is("from " + a + " to " + b, x.persons(a, b), 5 * Math.abs(a - b));
            }
        }
        AliasHouse cut = streets(0, 1, 1, 2, 2, 3, 3, 4, 5, 6, 6, 7, 7, 8, 8, 9);
        Due.is("to the cut", cut.persons(0, 4), 20);
        Due.is("over it", cut.persons(4, 5), -1);
        Due.is("over it", cut.persons(9, 0), -1);
        Due.is("behind it", cut.persons(9, 5), 20);
        cut.text(3);
        Due.is("without STREETS beside", cut.persons(0, 1), -1);
    }

    private static void wayByTheShortest() {
        Due.says("Promise 19, Terms 4", "WAY of two STREETS: minutes");
        AliasHouse ring = streets(0, 1, 1, 2, 2, 3, 3, 4, 4, 5, 5, 6, 6, 7, 7, 8, 8, 9, 9, 0);
        for (int b = 0; b <= 9; b++) {
            Due.is("on a ring, to " + b, ring.persons(0, b), 5 * Math.min(b, 10 - b));
        }
        AliasHouse more = streets(0, 1, 1, 2, 2, 3, 3, 4, 4, 5, 5, 6, 6, 7, 7, 8, 8, 9, 9, 2, 9, 0, 0, 5, 0, 5, 5, 0, 3, 8, 1, 6);
        Due.is("by the sixteenth line", more.persons(1, 6), 5);
        Due.is("through another", more.persons(2, 5), 15);
        Due.is("through another", more.persons(3, 9), 10);
    }

    private static void fiveMinutesEach() {
        Due.says("Promise 19, Terms 4", "5 minutes each (and is there as he comes): PERSONS: the fewest who can have been all");
        for (int far = 0; far <= 9; far++) {
            AliasHouse x = row();
            for (int wait : new int[] {0, 1, 5 * far - 1, 5 * far, 5 * far + 1, 99}) {
                if (wait >= 0) {
                    x.sighted(-1, 0);
                    x.sighted(0, 0);
                    x.sighted(wait, far);
                    int due = wait >= 5 * far ? 1 : 2;
                    Due.is(far + " far, " + wait + " minutes", x.persons(-1, 0), due);
                    x.sighted(-1, 0);
                    x.sighted(99, 0);
                    x.sighted(99 - wait, far);
                    Due.is("told the other way about", x.persons(-1, 0), due);
                }
            }
        }
    }

    private static void thereAsHeComes() {
        Due.says("Promise 19, Terms 4", "and is there as he comes");
        AliasHouse x = row();
        int[] minutes = {0, 5, 10, 15, 20, 25, 30, 35, 40, 45};
        for (int i = 0; i < 10; i++) {
            x.sighted(minutes[i], i);
        }
        Due.is("goes on at once", x.persons(-1, 0), 1);
        x.sighted(-1, 0);
        for (int i = 9; i >= 0; i--) {
            x.sighted(i == 5 ? 24 : minutes[i], i);
        }
        Due.is("a minute too early in 5", x.persons(-1, 0), 2);
        x.sighted(-1, 0);
        for (int i = 0; i < 10; i++) {
            x.sighted(99, 4);
        }
        Due.is("at one place at one minute", x.persons(-1, 0), 1);
    }

    private static void fewestOfTen() {
        Due.says("Promise 19, Terms 4", "PERSONS: the fewest who can have been all");
        AliasHouse x = row();
        Due.is("none", x.persons(-1, 0), 0);
        for (int i = 0; i < 10; i++) {
            x.sighted(50, i);
            Due.is("all in one minute", x.persons(-1, 0), i + 1);
        }
        // a way is taken through streets where he was not sighted, and one may pass another
        x.sighted(-1, 0);
        int[][] told = {{0, 0}, {0, 9}, {20, 4}, {20, 5}, {45, 9}, {45, 0}};
        for (int[] t : told) {
            x.sighted(t[0], t[1]);
        }
        Due.is("two of six", x.persons(-1, 0), 2);
        x.sighted(44, 9);
        Due.is("9 at minute 44, too", x.persons(-1, 0), 2);
        x.sighted(39, 0);
        Due.is("0 at minute 39", x.persons(-1, 0), 3);
        x.text(3);
        Due.is("without STREETS beside: 0, 9, 4, 5", x.persons(-1, 0), 4);
    }

    // ONE

    private static void pair() {
        Due.says("Promise 20", "A pair of names 0 .. 9: how many; NONE if one can't be (alike), or there are twelve");
        AliasHouse x = new AliasHouse();
        int[][] wrong = {{-2, 0}, {10, 0}, {MIN, 0}, {MAX, 0}, {0, -1}, {0, 10}, {0, MIN}, {0, MAX}, {0, 0}, {9, 9}};
        for (int i = 0; i < 12; i++) {
            for (int[] w : wrong) {
                Due.is("pair(" + w[0] + ", " + w[1] + ")", x.pair(w[0], w[1], i % 2 == 0), -1);
            }
            Due.is("none came", x.names(0), 10 - Math.min(9, i));
            Due.is("pair", x.pair(Math.min(8, i), Math.min(9, i + 1), true), i + 1);
        }
        Due.is("all are one", x.names(0), 1);
        Due.is("the thirteenth", x.pair(0, 9, true), -1);
        Due.is("the thirteenth", x.pair(0, 9, false), -1);
        Due.is("can be as before", x.names(1), 1);
        Due.is("told twelve times", x.pair(9, 9, true), -1);
    }

    private static void pairNoneThen() {
        Due.says("Promise 20", "a NONE: none is then");
        AliasHouse x = new AliasHouse();
        for (int b : new int[] {0, 9, -1, 10, MIN, MAX}) {
            Due.is("of none", x.pair(-1, b, true), 0);
            Due.is("one", x.pair(0, 1, true), 1);
            Due.is("nine", x.names(0), 9);
            Due.is("pair(-1, " + b + ")", x.pair(-1, b, false), 0);
            Due.is("ten", x.names(0), 10);
        }
        for (int turn = 0; turn < 2; turn++) {
            for (int i = 1; i <= 12; i++) {
                Due.is("twelve can be told again", x.pair(9, 0, turn == 0), i);
            }
            Due.is("no more", x.pair(1, 2, true), -1);
            Due.is("of twelve", x.pair(-1, 0, true), 0);
        }
        Due.is("can be", x.names(1), 1);
        Due.is("one person", x.names(2), 1);
    }

    private static void names() {
        Due.says("Promise 21", "ONE what 0 GROUPS (of all ten names), 1 whether, 2 FEWEST. NONE for another what");
        AliasHouse x = new AliasHouse();
        for (int what : new int[] {-1, 3, MIN, MAX}) {
            Due.is("names(" + what + ")", x.names(what), -1);
        }
        Due.is("GROUPS of none told", x.names(0), 10);
        Due.is("whether", x.names(1), 1);
        Due.is("FEWEST", x.names(2), 1);
    }

    private static void groups() {
        Due.says("Promise 21, Terms 4", "GROUPS: how many persons there are at most");
        AliasHouse x = new AliasHouse();
        int[][] told = {{0, 9}, {9, 0}, {8, 7}, {7, 6}, {8, 6}, {0, 8}, {1, 2}, {3, 4}, {2, 3}, {5, 9}, {1, 0}, {4, 6}};
        int[] due = {9, 9, 8, 7, 7, 6, 5, 4, 3, 2, 1, 1};
        for (int i = 0; i < 12; i++) {
            x.pair(told[i][0], told[i][1], true);
            Due.is("GROUPS of " + (i + 1) + " pairs", x.names(0), due[i]);
        }
        AliasHouse apart = new AliasHouse();
        for (int i = 0; i < 9; i++) {
            apart.pair(i, i + 1, false);
        }
        Due.is("those that are not one are ten", apart.names(0), 10);
    }

    private static void whetherItCanBe() {
        Due.says("Promise 21, Terms 4", "whether that can be (no group with two that are not one): 1, 0; FEWEST (NONE: it can't be)");
        for (int far = 1; far <= 9; far++) {
            AliasHouse x = new AliasHouse();
            x.pair(0, far, false);
            for (int i = 0; i < far; i++) {
                Due.is("can be", x.names(1), 1);
                Due.is("two", x.names(2), 2);
                x.pair(i, i + 1, true);
            }
            Due.is("over " + far, x.names(1), 0);
            Due.is("FEWEST", x.names(2), -1);
            x.pair(-1, 0, true);
            Due.is("none is told", x.names(1), 1);
        }
        AliasHouse x = new AliasHouse();
        x.pair(3, 4, true);
        x.pair(4, 3, false);
        Due.is("the same two", x.names(1), 0);
    }

    private static void fewest() {
        Due.says("Promise 21, Terms 4", "FEWEST: the fewest persons (names that are not one apart)");
        for (int n = 2; n <= 5; n++) {
            AliasHouse x = new AliasHouse();
            for (int a = 0; a < n; a++) {
                for (int b = a + 1; b < n; b++) {
                    x.pair(9 - a, 9 - b, false);
                }
            }
            Due.is(n + " all apart", x.names(2), n);
        }
        for (int n = 3; n <= 10; n++) {
            AliasHouse ring = new AliasHouse();
            for (int a = 0; a < n; a++) {
                Due.is("a row of " + (a + 1), ring.names(2), a == 0 ? 1 : 2);
                ring.pair(a, (a + 1) % n, false);
            }
            Due.is("a ring of " + n, ring.names(2), 2 + n % 2);
        }
        // a wheel of five: four
        AliasHouse wheel = new AliasHouse();
        for (int a = 0; a < 5; a++) {
            wheel.pair(a, (a + 1) % 5, false);
            wheel.pair(9, a, false);
        }
        Due.is("a wheel", wheel.names(2), 4);
    }

    private static void fewestOfGroups() {
        Due.says("Promise 21, Terms 4", "FEWEST: names that are not one apart");
        AliasHouse x = new AliasHouse();
        // five groups of two names; which of the two names is told does not count
        for (int g = 0; g < 5; g++) {
            x.pair(2 * g, 2 * g + 1, true);
        }
        int[][] apart = {{0, 3}, {2, 5}, {1, 4}, {7, 1}, {6, 3}, {4, 7}, {9, 0}};
        int[] due = {2, 2, 3, 3, 3, 4, 4};
        for (int i = 0; i < apart.length; i++) {
            x.pair(apart[i][0], apart[i][1], false);
            Due.is("apart, " + i, x.names(2), due[i]);
        }
        Due.is("GROUPS", x.names(0), 5);
        Due.is("twelve are told", x.pair(0, 1, true), -1);
    }

    // SPEAKERS

    private static void says() {
        Due.says("Promise 22", "A word (a of 0 .. 7 says: b ..): how many; NONE if one can't be, or there are ten");
        AliasHouse x = new AliasHouse();
        int[][] wrong = {{-2, 0}, {8, 0}, {MIN, 0}, {MAX, 0}, {0, -1}, {0, 8}, {0, MIN}, {0, MAX}};
        for (int i = 0; i < 10; i++) {
            for (int[] w : wrong) {
                Due.is("says(" + w[0] + ", " + w[1] + ")", x.says(w[0], w[1], i % 2 == 0), -1);
            }
            Due.is("none came", x.speakers(0), 256 >> Math.min(7, i));
            Due.is("says", x.says(Math.min(6, i), Math.min(7, i + 1), true), i + 1);
        }
        Due.is("two ways", x.speakers(0), 2);
        Due.is("the eleventh", x.says(0, 0, false), -1);
        Due.is("two as before", x.speakers(0), 2);
    }

    private static void saysNoneThen() {
        Due.says("Promise 22", "a NONE: none is then");
        AliasHouse x = new AliasHouse();
        for (int b : new int[] {0, 7, -1, 8, MIN, MAX}) {
            Due.is("of none", x.says(-1, b, true), 0);
            x.says(2, 2, false);
            Due.is("no way", x.speakers(0), 0);
            Due.is("says(-1, " + b + ")", x.says(-1, b, false), 0);
            Due.is("all ways", x.speakers(0), 256);
        }
        for (int turn = 0; turn < 2; turn++) {
            for (int i = 1; i <= 10; i++) {
                Due.is("ten can be told again", x.says(7, 0, true), i);
            }
            Due.is("no more", x.says(7, 0, true), -1);
            Due.is("of ten", x.says(-1, 0, true), 0);
        }
    }

    private static void speakers() {
        Due.says("Promise 23", "SPEAKERS what 0 WAYS, 1 MOST, 2 SURE. NONE for another what");
        AliasHouse x = new AliasHouse();
        for (int what : new int[] {-1, 3, MIN, MAX}) {
            Due.is("speakers(" + what + ")", x.speakers(what), -1);
        }
        Due.says("Promise 23, Terms 4", "MOST: the most who can speak true (NONE: no way); SURE: (a set; no way: 0)");
        Due.is("WAYS without a word", x.speakers(0), 256);
        Due.is("MOST", x.speakers(1), 8);
        Due.is("SURE", x.speakers(2), 0);
        x.says(7, 7, false);
        Due.is("who says of himself that he lies: no way", x.speakers(0), 0);
        Due.is("MOST", x.speakers(1), -1);
        Due.is("SURE", x.speakers(2), 0);
        x.says(-1, 0, true);
        x.says(0, 0, true);
        Due.is("who says of himself that he speaks true", x.speakers(0), 256);
    }

    private static void mostOfTenWords() {
        Due.says("Promise 23, Terms 4", "WAYS: in how many ways; MOST: the most who can speak true");
        AliasHouse star = new AliasHouse();
        for (int b = 1; b <= 7; b++) {
            star.says(0, b, false);
            Due.is("WAYS", star.speakers(0), 256 >> b);
            Due.is("MOST: 0 alone lies, or " + b + " of them do", star.speakers(1), 7);
        }
        star.says(1, 7, true);
        Due.is("told already", star.speakers(0), 2);
        star.says(1, 7, false);
        Due.is("no way", star.speakers(0), 0);
        AliasHouse row = new AliasHouse();
        for (int a = 0; a < 7; a++) {
            row.says(a, a + 1, false);
            Due.is("every second one lies", row.speakers(1), 8 - (a + 2) / 2);
        }
        row.says(7, 0, false);
        Due.is("a ring of eight", row.speakers(0), 2);
        Due.is("MOST", row.speakers(1), 4);
        row.says(7, 1, false);
        Due.is("a ring of seven", row.speakers(0), 0);
    }

    // VOTES

    private static void vote() {
        Due.says("Promise 24", "A weight (1 .. 30): how many; NONE if one can't be, or there are six");
        AliasHouse x = new AliasHouse();
        for (int i = 0; i < 6; i++) {
            for (int w : new int[] {0, -2, 31, MIN, MAX}) {
                Due.is("vote(" + w + ")", x.vote(w), -1);
            }
            Due.is("none came", x.swings(i, 1), -1);
            Due.is("vote", x.vote(i % 2 == 0 ? 1 : 30), i + 1);
        }
        Due.is("the seventh", x.vote(5), -1);
        Due.is("the seventh", x.vote(31), -1);
        Due.is("as before: 93 in all", x.swings(0, 93), 1);
        Due.is("as before: 93 in all", x.swings(5, 94), 0);
        Due.is("no seventh", x.swings(6, 93), -1);
    }

    private static void voteNoneThen() {
        Due.says("Promise 24", "NONE: none is then");
        AliasHouse x = new AliasHouse();
        Due.is("of none", x.vote(-1), 0);
        for (int turn = 0; turn < 2; turn++) {
            for (int i = 1; i <= 6; i++) {
                Due.is("six can be told again", x.vote(30), i);
            }
            Due.is("no more", x.vote(30), -1);
            Due.is("of six", x.vote(-1), 0);
            Due.is("no voter", x.swings(0, 30), -1);
            Due.is("none that never swings", x.swings(-1, 30), 0);
        }
    }

    private static void swings() {
        Due.says("Promise 25", "SWINGS of i; how many never swing (i NONE). NONE if there is none such, or q can't be (1 .. 180)");
        AliasHouse x = new AliasHouse();
        Due.is("of none", x.swings(-1, 1), 0);
        Due.is("of none", x.swings(-1, 180), 0);
        for (int i = 0; i < 6; i++) {
            x.vote(30);
            for (int q : new int[] {0, -1, 181, MIN, MAX}) {
                Due.is("swings(" + i + ", " + q + ")", x.swings(i, q), -1);
                Due.is("swings(-1, " + q + ")", x.swings(-1, q), -1);
            }
            Due.is("the last one", x.swings(i, 1), 1);
            for (int none : new int[] {i + 1, -2, MIN, MAX}) {
                Due.is("swings(" + none + ", 1)", x.swings(none, 1), -1);
            }
        }
    }

    private static void swingsOfLess() {
        Due.says("Promise 25, Terms 4", "SWINGS of i: in how many sets of the others it makes q of less");
        AliasHouse x = new AliasHouse();
        x.vote(10);
        x.vote(7);
        // with 7: the set of none comes to 0, that of 7 to 7
        int[] q = {1, 7, 8, 10, 11, 17, 18};
        int[] of10 = {1, 1, 2, 2, 1, 1, 0};
        int[] of7 = {1, 1, 0, 0, 1, 1, 0};
        for (int i = 0; i < q.length; i++) {
            Due.is("10 for q " + q[i], x.swings(0, q[i]), of10[i]);
            Due.is("7 for q " + q[i], x.swings(1, q[i]), of7[i]);
        }
    }

    private static int swingsByHand(int[] weights, int i, int q) {
        int count = 0;
        for (int set = 0; set < 1 << weights.length; set++) {
            int sum = 0;
            for (int j = 0; j < weights.length; j++) {
                sum += (set >> j & 1) != 0 ? weights[j] : 0;
            }
            boolean withIt = (set >> i & 1) != 0;
            count += withIt && sum >= q && sum - weights[i] < q ? 1 : 0;
        }
        return count;
    }

    private static void swingsOfAll() {
        Due.says("Promise 25, Terms 4", "VOTES: up to 6 told weights (1 .. 30), q (1 .. 180)");
        int[][] cases = {{30, 30, 30, 30, 30, 30}, {1, 1, 1, 1, 1, 1}, {30, 20, 10, 5, 2, 1}, {1, 30}, {17}};
        for (int[] weights : cases) {
            for (int i = 0; i < weights.length; i++) {
                AliasHouse x = new AliasHouse();
                for (int w : weights) {
                    x.vote(w);
                }
                for (int q = 1; q <= 180; q++) {
                    Due.is("SWINGS of " + i + " for " + q, x.swings(i, q), swingsByHand(weights, i, q));
                }
            }
        }
    }

    private static void neverSwing() {
        Due.says("Promise 25, Terms 4", "how many never swing");
        int[][] cases = {{30, 30, 30, 30, 30, 30}, {30, 20, 10, 5, 2, 1}, {3, 3, 1}};
        for (int[] weights : cases) {
            AliasHouse x = new AliasHouse();
            for (int w : weights) {
                x.vote(w);
            }
            for (int q = 1; q <= 180; q++) {
                int never = 0;
                for (int i = 0; i < weights.length; i++) {
                    never += swingsByHand(weights, i, q) == 0 ? 1 : 0;
                }
                Due.is("never for " + q, x.swings(-1, q), never);
            }
        }
    }

    // COATS and WATCH

    private static void coatsDue(AliasHouse x, String shares, int coats, int hour) {
        Due.text(x, 1, shares);
        Due.is("COATS of " + shares, x.least(0), coats);
        Due.is("HOUR of " + shares, x.least(1), hour);
    }

    private static void coats() {
        Due.says("Promise 26, Terms 4", "the fewest coats so that all lines that overlap in an hour have each its own");
        AliasHouse x = Due.house();
        coatsDue(x, "", 0, 0);
        coatsDue(x, "alias 0 from 0 to 0 in 0;", 1, 0);
        coatsDue(x, "alias 0 from 23 to 23 in 0;", 1, 23);
        coatsDue(x, "alias 0 from 0 to 23 in 0;", 1, 0);
        coatsDue(x, "alias 0 from 3 to 7 in 0;alias 1 from 7 to 9 in 0;", 2, 7);
        coatsDue(x, "alias 0 from 3 to 6 in 0;alias 1 from 7 to 9 in 0;", 1, 3);
        coatsDue(x, "alias 0 from 7 to 9 in 0;alias 1 from 3 to 6 in 0;", 1, 3);
        coatsDue(x, "alias 0 from 3 to 7 in 0;alias 0 from 7 to 9 in 5;", 2, 7);
        coatsDue(x, "alias 0 from 0 to 9 in 0;alias 1 from 8 to 23 in 0;alias 2 from 9 to 9 in 4;", 3, 9);
        coatsDue(x, "alias 0 from 0 to 9 in 0;alias 1 from 5 to 14 in 0;alias 2 from 10 to 20 in 4;", 2, 5);
    }

    private static void coatsOfSixteen() {
        Due.says("Promise 26, Terms 4", "COATS: of 16 lines at most");
        AliasHouse x = Due.house();
        coatsDue(x, "alias 0from 23to 23in 0;".repeat(16), 16, 23);
        coatsDue(x, "alias 0from 0to 22in 0;".repeat(15) + "alias 1from 22to 23in 0;", 16, 22);
        coatsDue(x, "alias 0from 0to 22in 0;".repeat(15) + "alias 1from 23to 23in 0;", 15, 0);
        x.text(1);
        coatsDue(x, "", 0, 0);
    }

    private static void firstHourOfMost() {
        Due.says("Promise 26, Terms 4", "the first HOUR of most lines (none: 0, 0)");
        AliasHouse x = Due.house();
        coatsDue(x, "alias 0 from 20 to 23 in 0;alias 1 from 22 to 23 in 0;alias 2 from 1 to 4 in 0;alias 2 from 4 to 5 in 0;", 2, 4);
        coatsDue(x, "alias 0 from 5 to 9 in 0;alias 1 from 2 to 4 in 0;", 1, 2);
        coatsDue(x, "alias 0 from 0 to 0 in 0;alias 1 from 23 to 23 in 0;alias 2 from 23 to 23 in 0;", 2, 23);
    }

    private static void watchDue(AliasHouse x, int set) {
        Due.is("WATCH how many", x.least(2), Integer.bitCount(set));
        Due.is("the set", x.least(3), set);
    }

    private static void watch() {
        Due.says("Promise 26, Terms 4", "WATCH: the fewest STREETS to be watched so that each of them or one beside it is");
        watchDue(new AliasHouse(), 1023);
        watchDue(streets(0, 9), 511);
        watchDue(streets(9, 8, 9, 7, 9, 6, 9, 5, 9, 4, 9, 3, 9, 2, 9, 1, 9, 0), 512);
        watchDue(streets(0, 1, 0, 2, 0, 3, 0, 4, 0, 5, 0, 6, 0, 7, 0, 8, 0, 9), 1);
        watchDue(streets(0, 1, 0, 2, 0, 3, 0, 4, 0, 5, 0, 6, 0, 7, 0, 8), 0b1000000001);
        watchDue(streets(4, 5, 4, 6, 4, 7, 4, 8, 4, 9, 3, 0, 3, 1, 3, 2), 0b0000011000);
    }

    /** The least set of the fewest, found by looking at every one. */
    private static int watchByHand(int... pairs) {
        int[] near = new int[10];
        for (int s = 0; s < 10; s++) {
            near[s] = 1 << s;
        }
        for (int i = 0; i < pairs.length; i += 2) {
            near[pairs[i]] |= 1 << pairs[i + 1];
            near[pairs[i + 1]] |= 1 << pairs[i];
        }
        for (int count = 1; count <= 10; count++) {
            for (int set = 0; set < 1024; set++) {
                int seen = 0;
                for (int s = 0; s < 10; s++) {
                    seen |= (set >> s & 1) != 0 ? near[s] : 0;
                }
                if (Integer.bitCount(set) == count && seen == 1023) {
                    return set;
                }
            }
        }
        return 0;
    }

    private static void watchOfSeveral() {
        Due.says("Promise 26, Terms 4", "the set (of several the least)");
        int[][] cases = {{8, 9}, {0, 1}, {0, 1, 1, 2}, {7, 8, 8, 9}, {0, 1, 1, 2, 2, 3, 3, 4, 4, 5, 5, 6, 6, 7, 7, 8, 8, 9},
            {9, 0, 8, 1, 7, 2, 6, 3, 5, 4}, {0, 5, 5, 9, 9, 4, 4, 8, 8, 3, 3, 7, 7, 2, 2, 6, 6, 1, 1, 0},
            {0, 1, 0, 4, 0, 5, 1, 2, 1, 6, 2, 3, 2, 7, 3, 4, 3, 8, 4, 9, 5, 7, 7, 9, 9, 6, 6, 8, 8, 5}};
        for (int[] c : cases) {
            watchDue(streets(c), watchByHand(c));
        }
        Due.is("told either way", streets(1, 0).least(3), 1021);
    }

    private static void least() {
        Due.says("Promise 26", "What 0 COATS, 1 the first HOUR, 2 WATCH how many, 3 the set. NONE for another what");
        AliasHouse x = new AliasHouse();
        for (int what : new int[] {-1, 4, 5, MIN, MAX}) {
            Due.is("least(" + what + ")", x.least(what), -1);
        }
        int[] due = {0, 0, 10, 1023};
        for (int what = 0; what <= 3; what++) {
            Due.is("least(" + what + ")", x.least(what), due[what]);
        }
    }

    // BIRTHDAYS

    private static void birthdays() {
        Due.says("Promise 27, Terms 4", "BIRTHDAYS of n (1 .. 8) in d (1 .. 20) days: that two fall together as a fraction in lowest terms");
        for (int n = 1; n <= 8; n++) {
            AliasHouse x = new AliasHouse();
            for (int d = 1; d <= 20; d++) {
                BigInteger all = BigInteger.valueOf(d).pow(n);
                BigInteger unlike = BigInteger.ONE;
                for (int i = 0; i < n; i++) {
                    unlike = unlike.multiply(BigInteger.valueOf(Math.max(0, d - i)));
                }
                BigInteger together = all.subtract(unlike);
                BigInteger shared = all.gcd(together);
                Due.is(n + " in " + d + ", above", x.birthdays(n, d, 0), together.divide(shared).longValueExact());
                Due.is(n + " in " + d + ", below", x.birthdays(n, d, 1), all.divide(shared).longValueExact());
            }
        }
    }

    private static void birthdaysBounds() {
        Due.says("Promise 27", "BIRTHDAYS what 0 above, 1 below. NONE if one can't be, or another what");
        AliasHouse x = new AliasHouse();
        for (int what = 0; what <= 1; what++) {
            for (int n : new int[] {0, -1, 9, MIN, MAX}) {
                Due.is("birthdays(" + n + ", 20, " + what + ")", x.birthdays(n, 20, what), -1);
            }
            for (int d : new int[] {0, -1, 21, MIN, MAX}) {
                Due.is("birthdays(1, " + d + ", " + what + ")", x.birthdays(1, d, what), -1);
            }
        }
        for (int what : new int[] {-1, 2, MIN, MAX}) {
            Due.is("birthdays(1, 1, " + what + ")", x.birthdays(1, 1, what), -1);
        }
        Due.is("one alone: 0", x.birthdays(1, 1, 0), 0);
        Due.is("by 1", x.birthdays(1, 1, 1), 1);
        Due.is("two in one day: 1", x.birthdays(2, 1, 0), 1);
        Due.is("by 1", x.birthdays(2, 1, 1), 1);
        Due.is("8 in 8", x.birthdays(8, 8, 0), 130757);
        Due.is("8 in 7: surely", x.birthdays(8, 7, 1), 1);
    }

    // NOTES

    private static void letter() {
        Due.says("Promise 28", "A letter (0 .. 25) of note 0, 1: how many; NONE if one can't be, or there are twelve");
        AliasHouse x = new AliasHouse();
        for (int i = 0; i < 12; i++) {
            for (int note = 0; note <= 1; note++) {
                for (int w : new int[] {-2, 26, MIN, MAX}) {
                    Due.is("letter(" + note + ", " + w + ")", x.letter(note, w), -1);
                }
                Due.is("letter", x.letter(note, i % 2 == 0 ? 0 : 25), i + 1);
            }
            for (int note : new int[] {-1, 2, MIN, MAX}) {
                Due.is("letter(" + note + ", 0)", x.letter(note, 0), -1);
                Due.is("letter(" + note + ", -1)", x.letter(note, -1), -1);
            }
            Due.is("none came", x.notes(0), 0);
        }
        for (int note = 0; note <= 1; note++) {
            Due.is("the thirteenth", x.letter(note, 0), -1);
            Due.is("the thirteenth", x.letter(note, 25), -1);
        }
        Due.is("as before", x.notes(0), 0);
        Due.is("0 and 25 by turns", x.notes(1), 0);
    }

    private static void letterNoneThen() {
        Due.says("Promise 28", "letter NONE: it is empty then");
        AliasHouse x = new AliasHouse();
        for (int note = 0; note <= 1; note++) {
            Due.is("of none", x.letter(note, -1), 0);
            for (int i = 1; i <= 12; i++) {
                x.letter(note, 5);
            }
        }
        Due.is("alike", x.notes(0), 0);
        Due.is("of twelve", x.letter(0, -1), 0);
        Due.is("of unlike length", x.notes(0), -1);
        Due.is("the other stays", x.letter(1, 5), -1);
        for (int i = 1; i <= 12; i++) {
            Due.is("twelve can be told again", x.letter(0, 6), i);
        }
        Due.is("one behind", x.notes(0), 1);
        Due.is("of twelve", x.letter(1, -1), 0);
        Due.is("of unlike length", x.notes(0), -1);
        Due.is("of twelve", x.letter(0, -1), 0);
        Due.is("both empty", x.notes(0), 0);
        Due.is("both empty", x.notes(1), 1);
    }

    private static AliasHouse notesOf(int[] is, int[] was) {
        AliasHouse x = new AliasHouse();
        for (int v : is) {
            x.letter(0, v);
        }
        for (int v : was) {
            x.letter(1, v);
        }
        return x;
    }

    private static void shift() {
        Due.says("Promise 29, Terms 4", "SHIFT: by how much (0 .. 25, modulo 26) each letter of the first is behind that of the second");
        for (int shift = 0; shift <= 25; shift++) {
            int[] is = new int[12];
            int[] was = new int[12];
            for (int i = 0; i < 12; i++) {
                was[i] = new int[] {0, 25, 1, 24, 12, 13, 25, 0, 7, 18, 3, 22}[i];
                is[i] = (was[i] + shift) % 26;
            }
            Due.is("SHIFT " + shift, notesOf(is, was).notes(0), shift);
            Due.is("one letter", notesOf(new int[] {shift}, new int[] {0}).notes(0), shift);
            Due.is("the other way", notesOf(new int[] {0}, new int[] {shift}).notes(0), (26 - shift) % 26);
        }
        Due.is("0 is one behind 25", notesOf(new int[] {0}, new int[] {25}).notes(0), 1);
        Due.is("25 is 25 behind 0", notesOf(new int[] {25}, new int[] {0}).notes(0), 25);
    }

    private static void shiftUnlike() {
        Due.says("Promise 29, Terms 4", "NONE: unlike, or not of the same length; both empty: 0");
        int[] twelve = {0, 1, 2, 3, 4, 5, 6, 7, 8, 9, 10, 11};
        for (int i = 0; i < 12; i++) {
            int[] other = twelve.clone();
            other[i] = 25;
            Due.is("unlike at " + i, notesOf(twelve, other).notes(0), -1);
        }
        for (int n = 0; n <= 12; n++) {
            int[] shorter = Arrays.copyOf(twelve, n);
            Due.is("of length 12 and " + n, notesOf(twelve, shorter).notes(0), n == 12 ? 0 : -1);
            Due.is("of length " + n + " and 12", notesOf(shorter, twelve).notes(0), n == 12 ? 0 : -1);
            Due.is("of length " + n, notesOf(shorter, shorter).notes(0), 0);
        }
    }

    private static void mirror() {
        Due.says("Promise 29, Terms 4", "MIRROR: whether the first is the second read from behind (1, 0)");
        for (int n = 0; n <= 12; n++) {
            int[] is = new int[n];
            int[] was = new int[n];
            for (int i = 0; i < n; i++) {
                is[i] = i;
                was[n - 1 - i] = i;
            }
            Due.is("of " + n + " letters", notesOf(is, was).notes(1), 1);
            Due.is("read from the front", notesOf(is, is).notes(1), n <= 1 ? 1 : 0);
            for (int i = 0; i < n; i++) {
                int[] other = was.clone();
                other[i] = 25;
                Due.is("another letter at " + i, notesOf(is, other).notes(1), 0);
            }
            if (n > 0) {
                Due.is("one letter less", notesOf(is, Arrays.copyOf(was, n - 1)).notes(1), 0);
                Due.is("one letter more", notesOf(Arrays.copyOf(is, n - 1), was).notes(1), 0);
            }
        }
    }

    private static void notes() {
        Due.says("Promise 29", "NOTES what 0 SHIFT, 1 MIRROR. NONE for another what");
        AliasHouse x = new AliasHouse();
        for (int what : new int[] {-1, 2, MIN, MAX}) {
            Due.is("notes(" + what + ")", x.notes(what), -1);
        }
        Due.is("SHIFT, both empty", x.notes(0), 0);
        Due.is("MIRROR, both empty", x.notes(1), 1);
    }

    // BOOTS

    private static void boot() {
        Due.says("Promise 30", "A boot (30 .. 50): how many; NONE if one can't be, or there are eight");
        AliasHouse x = new AliasHouse();
        x.bed(30, 50);
        for (int i = 0; i < 8; i++) {
            for (int w : new int[] {29, 51, 0, -2, MIN, MAX}) {
                Due.is("boot(" + w + ")", x.boot(w), -1);
            }
            Due.is("none came", x.beds(0), Math.min(1, i));
            Due.is("no bed of it", x.beds(10 + i), -1);
            Due.is("boot", x.boot(i % 2 == 0 ? 30 : 50), i + 1);
        }
        Due.is("the ninth", x.boot(40), -1);
        Due.is("the ninth", x.boot(30), -1);
        Due.is("the first has the bed", x.beds(10), 0);
        Due.is("of the ninth", x.beds(18), -1);
    }

    private static void bed() {
        Due.says("Promise 31", "A bed (shortest, longest of 30 .. 50): how many; NONE if one can't be, or there are eight");
        AliasHouse x = new AliasHouse();
        int[][] wrong = {{29, 40}, {29, 29}, {-2, 40}, {0, 40}, {51, 51}, {30, 51}, {40, 39}, {50, 30}, {30, 29}, {30, -1}, {MIN, 50},
            {MAX, 50}, {30, MIN}, {30, MAX}};
        int[][] right = {{30, 30}, {50, 50}, {30, 50}, {40, 40}, {40, 41}, {30, 31}, {49, 50}, {30, 50}};
        for (int i = 0; i < 8; i++) {
            for (int[] w : wrong) {
                Due.is("bed(" + w[0] + ", " + w[1] + ")", x.bed(w[0], w[1]), -1);
            }
            Due.is("bed(" + right[i][0] + ", " + right[i][1] + ")", x.bed(right[i][0], right[i][1]), i + 1);
        }
        Due.is("the ninth", x.bed(30, 50), -1);
        for (int i = 0; i < 8; i++) {
            x.boot(33);
        }
        Due.is("two beds for 33", x.beds(0), 2);
        Due.is("2", x.beds(10), 2);
        Due.is("7", x.beds(11), 7);
        Due.is("none", x.beds(12), -1);
    }

    private static void bootAndBedNoneThen() {
        Due.says("Promise 30", "NONE: none is then");
        AliasHouse x = new AliasHouse();
        Due.is("of none", x.boot(-1), 0);
        x.bed(30, 50);
        for (int turn = 0; turn < 2; turn++) {
            for (int i = 1; i <= 8; i++) {
                Due.is("eight can be told again", x.boot(30 + i), i);
            }
            Due.is("no more", x.boot(30), -1);
            Due.is("of eight", x.boot(-1), 0);
            Due.is("none", x.beds(0), 0);
            Due.is("no boot", x.beds(10), -1);
        }
        x.boot(44);
        Due.is("the bed stays", x.beds(0), 1);
        Due.says("Promise 31", "shortest NONE: none is then");
        for (int longest : new int[] {30, 50, -1, 51, MIN, MAX}) {
            x.bed(44, 44);
            Due.is("bed(-1, " + longest + ")", x.bed(-1, longest), 0);
            Due.is("none", x.beds(0), 0);
            Due.is("the boot has none", x.beds(10), -1);
            Due.is("of none", x.bed(-1, longest), 0);
        }
        for (int i = 1; i <= 8; i++) {
            Due.is("eight can be told again", x.bed(44, 50), i);
        }
        Due.is("the boot stays", x.beds(10), 0);
    }

    private static void fits() {
        Due.says("Promise 32, Terms 4", "beds (shortest, longest): the most boots that find a bed each");
        int[][] cases = {{30, 30, 30}, {50, 50, 50}, {30, 30, 50}, {50, 30, 50}, {40, 40, 41}, {41, 40, 41}};
        for (int[] c : cases) {
            AliasHouse x = new AliasHouse();
            x.boot(c[0]);
            x.bed(c[1], c[2]);
            Due.is(c[0] + " in " + c[1] + " .. " + c[2], x.beds(0), 1);
            Due.is("its bed", x.beds(10), 0);
        }
        int[][] not = {{31, 30, 30}, {49, 50, 50}, {39, 40, 41}, {42, 40, 41}, {30, 31, 50}, {50, 30, 49}};
        for (int[] c : not) {
            AliasHouse x = new AliasHouse();
            x.boot(c[0]);
            x.bed(c[1], c[2]);
            Due.is(c[0] + " in " + c[1] + " .. " + c[2], x.beds(0), 0);
            Due.is("no bed", x.beds(10), -1);
        }
    }

    private static void bedsDue(int[] boots, int[] beds, int... due) {
        AliasHouse x = new AliasHouse();
        for (int size : boots) {
            x.boot(size);
        }
        for (int i = 0; i < beds.length; i += 2) {
            x.bed(beds[i], beds[i + 1]);
        }
        int count = 0;
        for (int i = 0; i < due.length; i++) {
            Due.is("the bed of boot " + i, x.beds(10 + i), due[i]);
            count += due[i] >= 0 ? 1 : 0;
        }
        Due.is("how many", x.beds(0), count);
    }

    private static void bedOfBoot() {
        Due.says("Promise 32, Terms 4", "the bed of boot i (of several ways the first, boot by boot, the least bed, ahead of none)");
        bedsDue(new int[] {40, 40, 40}, new int[] {30, 50, 30, 50, 30, 50}, 0, 1, 2);
        bedsDue(new int[] {40, 40, 40}, new int[] {30, 50, 30, 50}, 0, 1, -1);
        bedsDue(new int[] {40, 40, 40}, new int[] {41, 50, 30, 50}, 1, -1, -1);
        // boot 0 takes the least bed that leaves as many boots a bed as can be
        bedsDue(new int[] {40, 30}, new int[] {30, 40, 40, 50}, 1, 0);
        bedsDue(new int[] {40, 30}, new int[] {30, 40, 30, 50}, 0, 1);
        bedsDue(new int[] {40, 45, 50}, new int[] {40, 45, 45, 50, 30, 40}, 2, 0, 1);
        bedsDue(new int[] {40, 45, 50}, new int[] {30, 40, 40, 45, 45, 50}, 0, 1, 2);
        // a bed is ahead of none, though another boot has none then
        bedsDue(new int[] {40, 45, 50}, new int[] {40, 50, 40, 50}, 0, 1, -1);
        bedsDue(new int[] {30, 40, 45, 50}, new int[] {40, 50, 40, 50}, -1, 0, 1, -1);
        bedsDue(new int[] {50, 40, 40}, new int[] {40, 40, 40, 50}, 1, 0, -1);
        // a row in which each gives way to the next
        bedsDue(new int[] {31, 32, 33, 34, 35, 36, 37, 30},
            new int[] {30, 31, 31, 32, 32, 33, 33, 34, 34, 35, 35, 36, 36, 37, 37, 38}, 1, 2, 3, 4, 5, 6, 7, 0);
    }

    private static void bedsFull() {
        Due.says("Promise 32, Terms 4", "BOOTS: up to 8 told sizes and beds (up to 8)");
        int[] any = {30, 50, 30, 50, 30, 50, 30, 50, 30, 50, 30, 50, 30, 50, 30, 50};
        bedsDue(new int[] {30, 33, 36, 39, 42, 45, 48, 50}, any, 0, 1, 2, 3, 4, 5, 6, 7);
        int[] down = {50, 50, 48, 50, 46, 50, 44, 50, 42, 50, 40, 50, 38, 50, 30, 50};
        bedsDue(new int[] {50, 49, 47, 45, 43, 41, 39, 37}, down, 0, 1, 2, 3, 4, 5, 6, 7);
        bedsDue(new int[] {37, 39, 41, 43, 45, 47, 49, 50}, down, 7, 6, 5, 4, 3, 2, 1, 0);
        bedsDue(new int[] {30, 30, 30, 30, 30, 30, 30, 30}, down, 7, -1, -1, -1, -1, -1, -1, -1);
        bedsDue(new int[] {50, 50, 50, 50, 50, 50, 50, 30}, down, 0, 1, 2, 3, 4, 5, 6, 7);
        bedsDue(new int[] {40, 40, 40, 40, 40, 40, 40, 40}, new int[0], -1, -1, -1, -1, -1, -1, -1, -1);
    }

    private static void bedsWhat() {
        Due.says("Promise 32", "BOOTS what 0 how many, 10 + i the bed of boot i (NONE). NONE if there is none such, or another what");
        AliasHouse x = new AliasHouse();
        x.bed(30, 50);
        x.bed(30, 50);
        Due.is("how many of none", x.beds(0), 0);
        Due.is("no boot 0", x.beds(10), -1);
        x.boot(30);
        x.boot(50);
        for (int what : new int[] {-1, 1, 2, 9, 12, 13, 17, 18, 20, MIN, MIN + 10, MAX}) {
            Due.is("beds(" + what + ")", x.beds(what), -1);
        }
        Due.is("boot 0", x.beds(10), 0);
        Due.is("boot 1", x.beds(11), 1);
        Due.is("how many", x.beds(0), 2);
    }

    // NAMED and NET

    private static void box() {
        Due.says("Promise 33", "A letter (0 .. 25): how many; NONE if one can't be, or there are ten");
        AliasHouse x = new AliasHouse();
        for (int i = 0; i < 10; i++) {
            for (int w : new int[] {-2, 26, MIN, MAX}) {
                Due.is("box(" + w + ")", x.box(w), -1);
            }
            Due.is("none came", x.named(1), i);
            Due.is("box", x.box(i < 5 ? i : 16 + i), i + 1);
        }
        Due.is("the eleventh", x.box(10), -1);
        Due.is("the eleventh", x.box(0), -1);
        Due.is("ten as before", x.named(1), 10);
    }

    private static void boxNoneThen() {
        Due.says("Promise 33", "NONE: none is then");
        AliasHouse x = new AliasHouse();
        Due.is("of none", x.box(-1), 0);
        for (int turn = 0; turn < 2; turn++) {
            for (int i = 1; i <= 10; i++) {
                Due.is("ten can be told again", x.box(turn), i);
            }
            Due.is("no more", x.box(2), -1);
            Due.is("one letter", x.named(1), 1);
            Due.is("of ten", x.box(-1), 0);
            Due.is("none", x.named(1), 0);
        }
    }

    private static void named() {
        Due.says("Promise 34, Terms 4", "NAMED: up to 10 letters: of how many unlike rows of k (0 .. 5) can they be laid");
        int[][] boxes = {{}, {25}, {0, 0, 0, 0, 0, 0, 0, 0, 0, 0}, {0, 1, 2, 3, 4, 5, 6, 7, 8, 9}, {0, 0, 0, 0, 0, 25, 25, 25, 25, 25},
            {3, 3, 3, 3, 9}, {7, 7, 8, 8, 9, 9, 9, 10, 11, 11}, {1, 2, 3, 4}};
        for (int i = 0; i < boxes.length; i++) {
            AliasHouse x = new AliasHouse();
            for (int letter : boxes[i]) {
                x.box(letter);
            }
            int[] byHand = new int[6];
            lay(boxes[i], 0, 0, new TreeSet<>(), "", byHand);
            for (int k = 0; k <= 5; k++) {
                Due.is("box " + i + ", rows of " + k, x.named(k), byHand[k]);
            }
        }
    }

    /** Lays each letter that is left behind each row, and counts the rows that were not laid before. */
    private static void lay(int[] box, int used, int k, Set<String> laid, String row, int[] count) {
        if (!laid.add(row)) {
            return;
        }
        count[k]++;
        for (int i = 0; i < box.length && k < 5; i++) {
            if ((used >> i & 1) == 0) {
                lay(box, used | 1 << i, k + 1, laid, row + (char) ('a' + box[i]), count);
            }
        }
    }

    private static void namedBounds() {
        Due.says("Promise 34", "NAMED; NONE if k can't be");
        AliasHouse x = new AliasHouse();
        for (int letters = 0; letters <= 10; letters += 5) {
            for (int k : new int[] {-1, 6, MIN, MAX}) {
                Due.is("named(" + k + ")", x.named(k), -1);
            }
            Due.is("the row of none", x.named(0), 1);
            Due.is("rows of 5", x.named(5), letters == 0 ? 0 : letters == 5 ? 120 : 2220);
            for (int i = 0; i < 5; i++) {
                x.box(i);
            }
        }
    }

    private static void netDue(AliasHouse x, int w, int most, int first) {
        Due.is("net(" + w + ", 0)", x.net(w, 0), most);
        Due.is("net(" + w + ", 1)", x.net(w, 1), first);
    }

    private static AliasHouse lodging(int... homes) {
        AliasHouse x = new AliasHouse();
        x.person(0, 0);
        for (int home : homes) {
            x.alias(0, 0, home);
        }
        Due.text(x, 0, "seen 0;gains 0;costs 0;");
        return x;
    }

    private static void net() {
        Due.says("Promise 35, Terms 4", "a net of w (1 .. 10) STREETS in a row (s .. s + w - 1): where it catches most: how many; the first s");
        for (int w = 1; w <= 10; w++) {
            netDue(new AliasHouse(), w, 0, 0);
            netDue(lodging(0), w, 1, 0);
            netDue(lodging(9), w, 1, 10 - w);
            netDue(lodging(0, 9), w, w == 10 ? 2 : 1, 0);
            netDue(lodging(4, 5), w, w == 1 ? 1 : 2, w == 1 ? 4 : Math.max(0, 6 - w));
            netDue(lodging(0, 9, 9), w, w == 10 ? 3 : 2, 10 - w);
        }
        AliasHouse full = lodging(0, 1, 2, 3, 4, 5, 6, 7, 8, 9, 0, 1, 2, 3, 4, 5, 6, 7);
        netDue(full, 1, 2, 0);
        netDue(full, 8, 16, 0);
        netDue(full, 9, 17, 0);
        netDue(full, 10, 18, 0);
    }

    private static void netBounds() {
        Due.says("Promise 35", "NET what 0 how many, 1 the first s. NONE if w can't be, or another what");
        AliasHouse x = lodging(9);
        for (int what = 0; what <= 1; what++) {
            for (int w : new int[] {0, -1, 11, MIN, MAX}) {
                Due.is("net(" + w + ", " + what + ")", x.net(w, what), -1);
            }
        }
        for (int what : new int[] {-1, 2, MIN, MAX}) {
            Due.is("net(1, " + what + ")", x.net(1, what), -1);
            Due.is("net(10, " + what + ")", x.net(10, what), -1);
        }
        netDue(x, 1, 1, 9);
    }

    private static void netOfStruckOnes() {
        Due.says("Promise 35, Terms 4", "ALIASES not STRUCK (IN them)");
        AliasHouse x = lodging(2, 2, 2, 7, 7);
        netDue(x, 1, 3, 2);
        x.set(4, 0, 51);
        x.set(4, 1, 51);
        netDue(x, 1, 3, 2);
        x.hours(1);
        netDue(x, 1, 2, 7);
        netDue(x, 10, 3, 0);
        x.act(0, 2, 8);
        netDue(x, 1, 2, 7);
        netDue(x, 2, 3, 7);
        x.act(1, 2, 0);
        netDue(x, 6, 3, 2);
        x.set(4, 2, 99);
        x.set(4, 3, 99);
        x.set(4, 4, 99);
        x.hours(1);
        netDue(x, 1, 0, 0);
        netDue(x, 10, 0, 0);
    }

    // HOOP

    private static void hoop() {
        Due.says("Promise 36, Terms 4", "HOOP on n (1 .. 60) stones, k (1 .. 60) on each time, from stone 0: how many till one again; the last");
        for (int n = 1; n <= 60; n++) {
            AliasHouse x = new AliasHouse();
            for (int k = 1; k <= 60; k++) {
                boolean[] touched = new boolean[n];
                int count = 0;
                int last = 0;
                for (int stone = 0; !touched[stone]; stone = (stone + k) % n) {
                    touched[stone] = true;
                    count++;
                    last = stone;
                }
                Due.is("hoop(" + n + ", " + k + ", 0)", x.hoop(n, k, 0), count);
                Due.is("hoop(" + n + ", " + k + ", 1)", x.hoop(n, k, 1), last);
            }
        }
    }

    private static void hoopBounds() {
        Due.says("Promise 36", "HOOP what 0 how many, 1 the last one. NONE if one can't be, or another what");
        AliasHouse x = new AliasHouse();
        for (int what = 0; what <= 1; what++) {
            for (int wrong : new int[] {0, -1, 61, MIN, MAX}) {
                Due.is("hoop(" + wrong + ", 1, " + what + ")", x.hoop(wrong, 1, what), -1);
                Due.is("hoop(60, " + wrong + ", " + what + ")", x.hoop(60, wrong, what), -1);
            }
        }
        for (int what : new int[] {-1, 2, MIN, MAX}) {
            Due.is("hoop(60, 60, " + what + ")", x.hoop(60, 60, what), -1);
        }
    }

    // PAYS

    private static void loan() {
        Due.says("Promise 37", "A loan (of 0 .. 5 to 0 .. 5, unlike, 1 .. 99): how many; NONE if one can't be, or there are eight");
        AliasHouse x = new AliasHouse();
        int[][] wrong = {{-2, 0, 1}, {6, 0, 1}, {0, -1, 1}, {0, 6, 1}, {0, 0, 1}, {5, 5, 99}, {0, 5, 0}, {0, 5, -1}, {0, 5, 100}, {MIN, 0, 1},
            {MAX, 0, 1}, {0, MIN, 1}, {0, MAX, 1}, {0, 5, MIN}, {0, 5, MAX}};
        for (int i = 0; i < 8; i++) {
            for (int[] w : wrong) {
                Due.is("loan(" + w[0] + ", " + w[1] + ", " + w[2] + ")", x.loan(w[0], w[1], w[2]), -1);
            }
            Due.is("none came", x.settled(0), 99 * i);
            Due.is("loan", x.loan(0, 5, 99), i + 1);
        }
        Due.is("the ninth", x.loan(0, 5, 1), -1);
        Due.is("the ninth", x.loan(3, 4, 1), -1);
        Due.is("to get", x.settled(0), 792);
        Due.is("to give", x.settled(5), -792);
        Due.is("one gift", x.settled(-1), 1);
    }

    private static void loanNoneThen() {
        Due.says("Promise 37", "of NONE: none is then");
        AliasHouse x = new AliasHouse();
        int[][] others = {{0, 1}, {-1, 0}, {6, 100}, {MIN, MAX}, {MAX, MIN}};
        for (int[] o : others) {
            Due.is("of none", x.loan(-1, o[0], o[1]), 0);
            x.loan(1, 2, 3);
            Due.is("loan(-1, " + o[0] + ", " + o[1] + ")", x.loan(-1, o[0], o[1]), 0);
            Due.is("even", x.settled(1), 0);
            Due.is("no gift", x.settled(-1), 0);
        }
        for (int turn = 0; turn < 2; turn++) {
            for (int i = 1; i <= 8; i++) {
                Due.is("eight can be told again", x.loan(5, 0, 1), i);
            }
            Due.is("no more", x.loan(5, 0, 1), -1);
            Due.is("of eight", x.loan(-1, 0, 0), 0);
        }
    }

    private static void settled() {
        Due.says("Promise 38", "SETTLED of 0 .. 5 (what he lent less what he was lent). NONE - 9999 if there is none such");
        AliasHouse x = new AliasHouse();
        for (int who : new int[] {-2, 6, 7, MIN, MAX}) {
            Due.is("settled(" + who + ")", x.settled(who), -10000);
        }
        for (int who = -1; who <= 5; who++) {
            Due.is("settled(" + who + ") without loans", x.settled(who), 0);
        }
        x.loan(0, 5, 99);
        x.loan(5, 0, 98);
        x.loan(4, 1, 1);
        int[] due = {1, -1, 0, 0, 1, -1};
        for (int who = 0; who <= 5; who++) {
            Due.is("settled(" + who + ")", x.settled(who), due[who]);
        }
        x.loan(3, 4, 2);
        Due.is("below 0: to give", x.settled(4), -1);
    }

    private static void giftsDue(int due, int... loans) {
        AliasHouse x = new AliasHouse();
        for (int i = 0; i < loans.length; i += 3) {
            Due.is("loan", x.loan(loans[i], loans[i + 1], loans[i + 2]), i / 3 + 1);
        }
        Due.is("gifts", x.settled(-1), due);
    }

    private static void fewestGifts() {
        Due.says("Promise 38, Terms 4", "FEWEST gifts by which all are even");
        giftsDue(0);
        giftsDue(1, 0, 1, 1);
        giftsDue(0, 0, 1, 50, 1, 0, 50);
        giftsDue(0, 0, 1, 7, 1, 2, 7, 2, 3, 7, 3, 4, 7, 4, 5, 7, 5, 0, 7);
        giftsDue(1, 0, 1, 7, 1, 2, 7, 2, 3, 7, 3, 4, 7, 4, 5, 7);
        giftsDue(5, 0, 1, 1, 0, 2, 1, 0, 3, 1, 0, 4, 1, 0, 5, 1);
        giftsDue(3, 0, 1, 5, 2, 3, 6, 4, 5, 7);
        giftsDue(3, 0, 1, 5, 2, 3, 5, 4, 5, 5);
        // 3, 2, -5 are even among themselves, and 4, -1, -3 are
        giftsDue(4, 0, 2, 3, 1, 2, 2, 3, 4, 1, 3, 5, 3);
        giftsDue(4, 0, 2, 9, 1, 2, 8, 3, 4, 7, 3, 5, 6);
        // 10, -5, -5 are, twice
        giftsDue(4, 0, 2, 5, 0, 3, 5, 1, 4, 5, 1, 5, 5);
        // 1, 2, 4, 8, 16, -31: none but all together
        giftsDue(5, 0, 5, 1, 1, 5, 2, 2, 5, 4, 3, 5, 8, 4, 5, 16);
    }

    // GAME

    /** Whether who begins loses, for all piles: each take is looked at. */
    private static boolean[][] lostPiles() {
        boolean[][] lost = new boolean[41][41];
        for (int a = 0; a <= 40; a++) {
            for (int b = 0; b <= 40; b++) {
                boolean wins = false;
                for (int take = 1; take <= 40; take++) {
                    wins |= take <= a && lost[a - take][b];
                    wins |= take <= b && lost[a][b - take];
                    wins |= take <= a && take <= b && lost[a - take][b - take];
                }
                lost[a][b] = !wins;
            }
        }
        return lost;
    }

    private static void game() {
        Due.says("Promise 39, Terms 4", "GAME of two piles a, b (0 .. 40): how many of the first, of the second (the fewest in all, then of the first)");
        boolean[][] lost = lostPiles();
        for (int a = 0; a <= 40; a++) {
            AliasHouse x = new AliasHouse();
            for (int b = 0; b <= 40; b++) {
                int first = -1;
                int second = -1;
                for (int f = 0; f <= a; f++) {
                    for (int s = 0; s <= b; s++) {
                        boolean may = f + s > 0 && (f == 0 || s == 0 || f == s);
                        boolean better = first < 0 || f + s < first + second || f + s == first + second && f < first;
                        if (may && lost[a - f][b - s] && better) {
                            first = f;
                            second = s;
                        }
                    }
                }
                Due.is("game(" + a + ", " + b + ", 0)", x.game(a, b, 0), first);
                Due.is("game(" + a + ", " + b + ", 1)", x.game(a, b, 1), second);
            }
        }
    }

    private static void gameBounds() {
        Due.says("Promise 39", "NONE if who begins loses, one can't be, or another what");
        AliasHouse x = new AliasHouse();
        for (int what = 0; what <= 1; what++) {
            Due.is("nothing to take", x.game(0, 0, what), -1);
            Due.is("who begins loses", x.game(1, 2, what), -1);
            Due.is("who begins loses", x.game(39, 24, what), -1);
            for (int wrong : new int[] {-1, 41, MIN, MAX}) {
                Due.is("game(" + wrong + ", 1, " + what + ")", x.game(wrong, 1, what), -1);
                Due.is("game(1, " + wrong + ", " + what + ")", x.game(1, wrong, what), -1);
            }
        }
        for (int what : new int[] {-1, 2, MIN, MAX}) {
            Due.is("game(40, 40, " + what + ")", x.game(40, 40, what), -1);
        }
        Due.is("game(40, 40, 0)", x.game(40, 40, 0), 40);
        Due.is("game(40, 40, 1)", x.game(40, 40, 1), 40);
    }

    private static void nothingOfItStays() {
        Due.says("Promises 18 to 39, Terms 4", "IN THOUGHT (nothing of it stays; no DRAWS)");
        AliasHouse x = Due.house();
        Due.lines(x, 3, "street 0 by 1;", 1);
        Due.lines(x, 1, "alias 0 from 1 to 2 in 3;", 1);
        x.state(99);
        x.act(0, 1, 4);
        int[] before = new int[15];
        for (int what = 0; what <= 14; what++) {
            before[what] = x.look(what);
        }
        x.sighted(1, 2);
        x.pair(1, 2, true);
        x.says(1, 2, true);
        x.vote(9);
        x.letter(0, 9);
        x.boot(40);
        x.bed(40, 40);
        x.box(3);
        x.loan(0, 1, 9);
        x.persons(-1, 0);
        x.persons(0, 1);
        x.names(2);
        x.speakers(0);
        x.swings(0, 9);
        x.least(2);
        x.birthdays(5, 5, 0);
        x.notes(0);
        x.beds(10);
        x.named(1);
        x.net(3, 0);
        x.hoop(9, 9, 0);
        x.settled(0);
        x.game(9, 9, 0);
        for (int what = 0; what <= 14; what++) {
            Due.is("look(" + what + ")", x.look(what), before[what]);
        }
        Due.is("one vote as told", x.vote(9), 2);
        Due.is("one boot as told", x.boot(40), 2);
        Due.is("one loan as told", x.loan(0, 1, 9), 2);
    }
}
