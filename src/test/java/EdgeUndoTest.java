import java.util.ArrayList;
import java.util.List;

/** The edges that the document names of UNDO and THE IMAGE: Terms 4; promises 40 and 41. */
final class EdgeUndoTest {
    private static final int MIN = Integer.MIN_VALUE;
    private static final int MAX = Integer.MAX_VALUE;
    private static final String LAW = "seen 600;costs 7 when rank=2;costs 1;gains 2;";
    private static final String DIARY = "on 0 at 0 eyes 4 9;on 0 at 1 give 0 50;on 0 at 1 eyes 4 2;on 0 at 2 walk 2 7;on 0 at 3 lie 2;";
    private static final int DEEDS = 9;

    private EdgeUndoTest() {
    }

    public static void main(String[] args) {
        nothingToUndo();
        refusedLeavesAll();
        eachGoesBack();
        sixAreKept();
        sixHoursAreKept();
        sixAgain();
        otherWayOn();
        whatIsToldForgets();
        textsThatForget();
        whatDoesNotForget();
        refusedForgetsNothing();
        hoursRefusedForgetNothing();
        notTakenBack();
        turnOfTheDayGoesBack();
        noImage();
        imageForgets();
        imageTakenForgetsNothing();
        imageMoreThanOnce();
        imageTakenAgain();
        imageOfTheEmptyHouse();
        imageOfFullTables();
        imageWithoutTape();
        imageWithoutFault();
        imageGoesOn();
        Due.finish("EdgeUndoTest");
    }

    /** All that can be looked at of what hours and deeds change. */
    private static List<Integer> seen(AliasHouse x) {
        List<Integer> all = new ArrayList<>();
        for (int what = 0; what <= 13; what++) {
            all.add(x.look(what));
        }
        for (int a = 0; a < 3; a++) {
            for (int what = 0; what <= 9; what++) {
                all.add(x.of(a, what));
            }
        }
        for (int p = 0; p < 2; p++) {
            for (int what = 0; what <= 3; what++) {
                all.add(x.who(p, what));
            }
        }
        for (int s = 0; s <= 9; s++) {
            all.add(x.street(s, 0));
            all.add(x.street(s, 1));
        }
        for (int i = 0; i <= x.look(8); i++) {
            for (int what = 0; what <= 4; what++) {
                all.add(x.book(i, what));
            }
        }
        return all;
    }

    private static void alike(String what, AliasHouse got, AliasHouse want) {
        List<Integer> one = seen(got);
        List<Integer> other = seen(want);
        Due.is(what + ", how much is seen", one.size(), other.size());
        for (int i = 0; i < Math.min(one.size(), other.size()); i++) {
            Due.is(what + ", place " + i, one.get(i), other.get(i));
        }
    }

    /** A house with a law and a diary, and so many deeds done: walks, an hour, a lying, a payment, hours. */
    private static AliasHouse after(int deeds) {
        AliasHouse x = Due.house();
        Due.text(x, 0, LAW);
        Due.text(x, 2, DIARY);
        x.set(2, 1, 3);
        x.state(5);
        for (int i = 0; i < deeds; i++) {
            Due.is("deed " + i, deed(x, i), true);
        }
        return x;
    }

    private static boolean deed(AliasHouse x, int i) {
        switch (i) {
            case 0:
                return x.act(0, 0, 4);
            case 1:
                return x.act(0, 1, 4);
            case 2:
                return x.act(0, 2, 9);
            case 4:
                return x.act(2, 0, 0);
            case 6:
                return x.act(1, 2, 0);
            default:
                return x.hours(1) >= 0;
        }
    }

    private static void nothingToUndo() {
        Due.says("Promise 40", "UNDO: true; false if there is nothing");
        AliasHouse x = new AliasHouse();
        Due.is("of a new object", x.undo(), false);
        Due.is("again", x.undo(), false);
        Due.is("none", x.look(14), 0);
        x.hours(1);
        Due.is("one HOUR", x.undo(), true);
        Due.is("no more", x.undo(), false);
        Due.is("HOUR", x.look(5), 0);
        Due.is("none", x.look(14), 0);
        AliasHouse y = after(0);
        Due.is("nothing done yet", y.undo(), false);
        alike("undo() that can't be leaves all", y, after(0));
    }

    private static void refusedLeavesAll() {
        Due.says("Promise 40", "false if there is nothing");
        AliasHouse x = after(DEEDS);
        for (int i = 0; i < 6; i++) {
            Due.is("undo", x.undo(), true);
        }
        for (int i = 0; i < 3; i++) {
            Due.is("no more", x.undo(), false);
            Due.is("none", x.look(14), 0);
        }
        alike("as after three deeds", x, after(DEEDS - 6));
    }

    private static void eachGoesBack() {
        Due.says("Promise 40, Terms 4", "the latest HOUR, WALK, LYING, PAYMENT not undone yet goes back (STATE, THE BOOK, too)");
        for (int deeds = 1; deeds <= DEEDS; deeds++) {
            for (int back = 1; back <= Math.min(6, deeds); back++) {
                AliasHouse x = after(deeds);
                for (int i = 0; i < back; i++) {
                    Due.is("undo", x.undo(), true);
                }
                alike(deeds + " deeds, " + back + " back", x, after(deeds - back));
            }
        }
    }

    private static void sixAreKept() {
        Due.says("Promise 40, Terms 4", "6 are kept");
        for (int deeds = 0; deeds <= DEEDS; deeds++) {
            AliasHouse x = after(deeds);
            int kept = Math.min(6, deeds);
            Due.is("after " + deeds, x.look(14), kept);
            for (int i = kept; i > 0; i--) {
                Due.is("undo", x.undo(), true);
                Due.is("kept", x.look(14), i - 1);
            }
            Due.is("no more", x.undo(), false);
        }
    }

    private static void sixHoursAreKept() {
        Due.says("Promise 40, Terms 4", "the latest HOUR; 6 are kept");
        for (int n : new int[] {1, 5, 6, 7, 59, 60}) {
            AliasHouse x = Due.house();
            x.hours(n);
            int kept = Math.min(6, n);
            Due.is("hours(" + n + ")", x.look(14), kept);
            for (int i = 1; i <= kept; i++) {
                Due.is("undo", x.undo(), true);
                Due.is("DAY by 24 and HOUR", 24 * x.look(6) + x.look(5), n - i);
            }
            Due.is("no more", x.undo(), false);
            Due.is("as it was six before", 24 * x.look(6) + x.look(5), n - kept);
        }
    }

    private static void sixAgain() {
        Due.says("Promise 40, Terms 4", "6 are kept");
        AliasHouse x = Due.house();
        x.hours(6);
        x.undo();
        x.undo();
        x.act(0, 0, 5);
        Due.is("four and one", x.look(14), 5);
        x.act(0, 0, 6);
        x.act(0, 0, 7);
        Due.is("six", x.look(14), 6);
        int[] in = {6, 5, 1};
        for (int s : in) {
            x.undo();
            Due.is("IN", x.of(0, 3), s);
        }
        Due.is("HOUR", x.look(5), 4);
        for (int hour = 3; hour >= 1; hour--) {
            Due.is("undo", x.undo(), true);
            Due.is("HOUR", x.look(5), hour);
        }
        Due.is("HOUR 0 is forgotten", x.undo(), false);
    }

    private static void otherWayOn() {
        Due.says("Promise 40, Terms 4", "the latest .. not undone yet goes back");
        AliasHouse x = after(DEEDS);
        for (int i = DEEDS; i > 5; i--) {
            x.undo();
        }
        for (int i = 5; i < DEEDS; i++) {
            Due.is("deed " + i, deed(x, i), true);
        }
        alike("done again", x, after(DEEDS));
        AliasHouse y = after(4);
        y.undo();
        y.act(1, 0, 0);
        y.hours(2);
        y.undo();
        y.undo();
        y.undo();
        alike("another way, and back", y, after(3));
    }

    private static AliasHouse walked() {
        AliasHouse x = Due.house();
        x.act(0, 0, 4);
        x.hours(1);
        return x;
    }

    private static void forgets(String what, AliasHouse x) {
        Due.is(what + " forgets", x.look(14), 0);
        Due.is(what + " forgets: undo()", x.undo(), false);
        Due.is("HOUR stays", x.look(5), 1);
        Due.is("OUT stays", x.of(0, 4), 1);
    }

    private static void keeps(String what, AliasHouse x) {
        Due.is(what + " does not forget", x.look(14), 2);
        Due.is(what + " does not forget: undo()", x.undo(), true);
        Due.is("HOUR goes back", x.look(5), 0);
        Due.is("undo()", x.undo(), true);
        Due.is("OUT goes back", x.of(0, 4), 0);
    }

    private static void whatIsToldForgets() {
        Due.says("Promise 40, Terms 4", "whatever else is told .. forgets them");
        AliasHouse x = walked();
        x.state(0);
        forgets("state(0) as it is", x);
        x = walked();
        Due.is("person", x.person(0, 0), 2);
        forgets("person", x);
        x = walked();
        Due.is("alias", x.alias(1, 0, 0), 3);
        forgets("alias", x);
        for (int what = 0; what <= 4; what++) {
            for (int v = 0; v <= 1; v++) {
                x = walked();
                Due.is("set", x.set(what, 1, v), true);
                forgets("set(" + what + ", 1, " + v + ")", x);
            }
        }
        x = walked();
        x.set(3, 0, 5);
        forgets("a RANK as it is", x);
    }

    private static void textsThatForget() {
        Due.says("Promise 40, Terms 4", "whatever else is told but THE LAW, STREETS");
        String[] line = {"seen 1;", "alias 1 from 0 to 0 in 0;", "on 500 at 0 lie 1;", "street 0 by 1;"};
        for (int k = 0; k <= 3; k++) {
            for (String text : new String[] {"", line[k], line[k].repeat(3)}) {
                AliasHouse x = walked();
                Due.lines(x, k, text, text.length() / line[k].length());
                if (k == 1 || k == 2) {
                    forgets("text " + k, x);
                } else {
                    keeps("text " + k, x);
                }
            }
        }
    }

    private static void whatDoesNotForget() {
        Due.says("Promise 40, Terms 4", "what is told for thought (AT ONCE, ONE, SPEAKERS, VOTES, NOTES, BOOTS, NAMED, PAYS)");
        for (int i = 0; i < 21; i++) {
            AliasHouse x = walked();
            Due.is("call " + i + " is done", thought(x, i) >= 0, true);
            keeps("call " + i, x);
        }
        Due.says("Promise 40, Terms 4", "the taking of THE IMAGE does not");
        AliasHouse x = walked();
        Due.is("taken", x.image(true), true);
        keeps("image(true)", x);
        x = walked();
        x.goes(9, 0);
        x.keeps(0);
        x.persons(-1, 0);
        x.persons(0, 1);
        x.least(3);
        x.book(0, 0);
        x.fault(0);
        keeps("what is asked", x);
        x = walked();
        Due.is("feed", x.feed(0, 0, 0, 0, 0), 20);
        Due.is("end", x.end(3), true);
        keeps("what comes on the TAPE alone", x);
    }

    private static int thought(AliasHouse x, int i) {
        switch (i) {
            case 0:
                return x.sighted(1, 1);
            case 1:
                return x.sighted(-1, 1);
            case 2:
                return x.pair(1, 2, true);
            case 3:
                return x.pair(1, 2, false);
            case 4:
                return x.pair(-1, 0, true);
            case 5:
                return x.says(1, 2, true);
            case 6:
                return x.says(1, 2, false);
            case 7:
                return x.says(-1, 0, true);
            case 8:
                return x.vote(1);
            case 9:
                return x.vote(-1);
            case 10:
                return x.letter(0, 1);
            case 11:
                return x.letter(1, 1);
            case 12:
                return x.letter(0, -1);
            case 13:
                return x.letter(1, -1);
            case 14:
                return x.boot(30);
            case 15:
                return x.boot(-1);
            case 16:
                return x.bed(30, 50);
            case 17:
                return x.bed(-1, 0);
            case 18:
                return x.box(1) + x.box(-1);
            case 19:
                return x.loan(0, 1, 1);
            default:
                return x.loan(-1, 0, 0);
        }
    }

    private static void refusedForgetsNothing() {
        Due.says("Promise 40, Terms 4", "whatever else is told (what is refused is not told)");
        AliasHouse x = walked();
        Due.is("person", x.person(10, 0), -1);
        keeps("person(10, 0)", x);
        x = walked();
        Due.is("alias", x.alias(2, 0, 0), -1);
        keeps("alias(2, 0, 0)", x);
        int[][] sets = {{0, 10, 0}, {0, 0, 10}, {1, 2, 0}, {1, 0, 10}, {2, 2, 0}, {2, 0, 10000}, {3, 3, 0}, {3, 0, 10}, {4, 3, 0}, {4, 0, 100},
            {5, 0, 0}, {-1, 0, 0}};
        for (int[] s : sets) {
            x = walked();
            Due.is("set", x.set(s[0], s[1], s[2]), false);
            keeps("set(" + s[0] + ", " + s[1] + ", " + s[2] + ")", x);
        }
        int[][] acts = {{0, 3, 0}, {0, 0, 10}, {1, 1, 0}, {1, 3, 0}, {2, 0, 0}, {2, 2, 0}, {3, 0, 0}, {-1, 0, 0}};
        for (int[] a : acts) {
            x = walked();
            Due.is("act", x.act(a[0], a[1], a[2]), false);
            keeps("act(" + a[0] + ", " + a[1] + ", " + a[2] + ")", x);
        }
        for (int k = 0; k <= 3; k++) {
            x = walked();
            Due.fault(x, k, ";", 1, 0);
            keeps("text " + k + " with a FAULT", x);
        }
        for (int k : new int[] {-1, 4, MIN, MAX}) {
            x = walked();
            Due.is("text", x.text(k), -1);
            keeps("no text " + k, x);
        }
        x = walked();
        Due.is("end", x.end(1), false);
        Due.is("image", x.image(false), false);
        keeps("an end and an image that can't be", x);
    }

    private static void hoursRefusedForgetNothing() {
        Due.says("Promise 7", "NONE, and nothing is done");
        for (int n : new int[] {0, 61, -1, MIN, MAX}) {
            AliasHouse x = walked();
            Due.is("hours", x.hours(n), -1);
            keeps("hours(" + n + ")", x);
        }
        AliasHouse full = new AliasHouse();
        for (int i = 0; i < 18; i++) {
            full.person(0, 0);
            full.alias(0, 0, 0);
        }
        full.act(0, 0, 4);
        full.hours(1);
        Due.is("the seventh PERSON", full.person(0, 0), -1);
        Due.is("the nineteenth ALIAS", full.alias(0, 0, 0), -1);
        keeps("what finds no room", full);
    }

    private static void notTakenBack() {
        Due.says("Promise 40, Terms 4", "THE LAW, STREETS and what is told for thought stay when an HOUR goes back");
        AliasHouse x = walked();
        Due.lines(x, 0, "seen 7;", 1);
        Due.lines(x, 3, "street 0 by 1;", 1);
        for (int i : new int[] {0, 2, 5, 8, 10, 11, 14, 16, 19}) {
            thought(x, i);
        }
        x.box(3);
        Due.is("undo", x.undo(), true);
        Due.is("undo", x.undo(), true);
        Due.is("THE LAW", x.of(0, 7), 7);
        Due.is("its lines", x.look(10), 1);
        Due.is("STREETS", x.look(13), 1);
        Due.is("beside", x.street(0, 2), 2);
        Due.is("AT ONCE", x.sighted(2, 2), 2);
        Due.is("ONE", x.names(0), 9);
        Due.is("SPEAKERS", x.speakers(0), 128);
        Due.is("VOTES", x.vote(2), 2);
        Due.is("NOTES", x.letter(0, 2) + x.letter(1, 2), 4);
        Due.is("BOOTS", x.beds(10), 0);
        Due.is("NAMED", x.named(1), 1);
        Due.is("PAYS", x.settled(0), 1);
        Due.tape(x, "street 0", 0);
        x.hours(1);
        x.undo();
        Due.is("the TAPE", x.end(9), false);
        Due.is("the TAPE", x.end(8), true);
        Due.is("at its end", x.text(3), -1);
        x.hours(1);
        x.undo();
        Due.is("fault()", x.fault(1), 8);
    }

    private static void turnOfTheDayGoesBack() {
        Due.says("Promise 40, Terms 4", "the latest HOUR goes back (behind 23)");
        AliasHouse x = Due.house();
        x.hours(23);
        x.set(4, 0, 1);
        x.set(4, 1, 51);
        Due.is("one is struck", x.hours(1), 1);
        Due.is("DAY", x.look(6), 1);
        Due.is("SEEN 1", x.of(0, 5), 0);
        Due.is("SEEN 51", x.of(1, 5), 49);
        Due.is("undo", x.undo(), true);
        Due.is("HOUR", x.look(5), 23);
        Due.is("DAY", x.look(6), 0);
        Due.is("SEEN 1", x.of(0, 5), 1);
        Due.is("SEEN 51", x.of(1, 5), 51);
        Due.is("not STRUCK", x.look(7), 0);
        Due.is("CAUGHT", x.look(4), 0);
        Due.is("no line", x.look(8), 0);
        Due.is("nothing told before", x.undo(), false);
        Due.is("struck again", x.hours(1), 1);
    }

    private static void noImage() {
        Due.says("Promise 41", "true; false if there is none");
        AliasHouse x = after(5);
        Due.is("none is taken", x.image(false), false);
        Due.is("again", x.image(false), false);
        alike("all is left", x, after(5));
        Due.is("and can be undone", x.look(14), 5);
        Due.is("taken", x.image(true), true);
        Due.is("gone back to", x.image(false), true);
    }

    private static void imageForgets() {
        Due.says("Promise 41, Terms 4", "what can be undone (nothing then)");
        AliasHouse x = after(5);
        x.image(true);
        Due.is("gone back to at once", x.image(false), true);
        Due.is("nothing", x.look(14), 0);
        Due.is("undo", x.undo(), false);
        alike("all as taken", x, after(5));
        x.hours(1);
        Due.is("an HOUR behind it", x.look(14), 1);
        x.image(false);
        Due.is("nothing", x.undo(), false);
        alike("all as taken", x, after(5));
    }

    private static void imageTakenForgetsNothing() {
        Due.says("Promise 41, Terms 4", "(the taking of THE IMAGE does not) forgets them");
        AliasHouse x = after(5);
        x.image(true);
        Due.is("five", x.look(14), 5);
        for (int i = 4; i >= 2; i--) {
            Due.is("undo", x.undo(), true);
        }
        alike("three back", x, after(2));
        Due.says("Promise 41, Terms 4", "as it was when it was taken");
        x.image(false);
        alike("what is undone behind it", x, after(5));
    }

    private static void imageMoreThanOnce() {
        Due.says("Promise 41, Terms 4", "gone back to it may be more than once");
        AliasHouse x = after(3);
        x.image(true);
        for (int i = 0; i < 4; i++) {
            x.hours(1 + i);
            x.set(0, i, 9);
            x.set(2, 0, 9999);
            x.person(1, 1);
            x.alias(0, 1, 1);
            Due.text(x, 0, "gains 99;");
            Due.text(x, 1, "");
            Due.is("gone back to", x.image(false), true);
            Due.is("PERSONS", x.look(0), 2);
            Due.is("ALIASES", x.look(1), 3);
            Due.is("lines of THE LAW", x.look(10), 4);
        }
        alike("the fourth time", x, after(3));
    }

    private static void imageTakenAgain() {
        Due.says("Promise 41, Terms 4", "as it was when it was taken");
        AliasHouse x = after(2);
        x.image(true);
        deed(x, 2);
        deed(x, 3);
        Due.is("taken again", x.image(true), true);
        x.hours(5);
        x.image(false);
        alike("the one taken last", x, after(4));
        x.image(false);
        alike("again", x, after(4));
    }

    private static void imageOfTheEmptyHouse() {
        Due.says("Promise 41", "THE IMAGE is taken (of the empty house)");
        AliasHouse x = new AliasHouse();
        Due.is("taken", x.image(true), true);
        x.person(1, 1);
        x.alias(0, 1, 1);
        x.set(0, 4, 4);
        x.state(4);
        x.set(4, 0, 80);
        Due.lines(x, 0, "seen 1;", 1);
        Due.lines(x, 1, "alias 0 from 0 to 0 in 0;", 1);
        Due.lines(x, 2, "on 0 at 0 lie 0;", 1);
        Due.lines(x, 3, "street 0 by 1;", 1);
        for (int i : new int[] {0, 2, 5, 8, 10, 14, 16, 19}) {
            thought(x, i);
        }
        x.box(3);
        x.act(0, 0, 4);
        x.hours(30);
        Due.is("gone back to", x.image(false), true);
        for (int what = 0; what <= 14; what++) {
            Due.is("look(" + what + ")", x.look(what), 0);
        }
        for (int s = 0; s <= 9; s++) {
            Due.is("EYES", x.street(s, 0), 0);
            Due.is("beside", x.street(s, 2), 0);
        }
        Due.is("no PERSON", x.who(0, 0), -1);
        Due.is("no ALIAS", x.of(0, 0), -1);
        Due.is("no line", x.book(0, 0), -1);
        Due.is("no sighting", x.persons(-1, 0), 0);
        Due.is("no pair", x.names(0), 10);
        Due.is("no word", x.speakers(0), 256);
        Due.is("no vote", x.swings(0, 1), -1);
        Due.is("no letter", x.notes(0), 0);
        Due.is("no boot", x.beds(0), 0);
        Due.is("no bed", x.bed(30, 30), 1);
        Due.is("no letter in the box", x.named(1), 0);
        Due.is("no loan", x.settled(0), 0);
    }

    /** Every table for thought is told to its end. */
    private static AliasHouse told() {
        AliasHouse x = Due.house();
        for (int i = 0; i < 12; i++) {
            x.sighted(i, i % 10);
            x.pair(i % 9, i % 9 + 1, i < 9);
            x.says(i % 7, i % 7 + 1, false);
            x.vote(5 * i + 1);
            x.letter(0, i + 3);
            x.letter(1, i);
            x.boot(30 + i);
            x.bed(30, 41 - i);
            x.box(i);
            x.loan(i % 5, 5, i + 1);
        }
        return x;
    }

    private static void fullTables(AliasHouse x) {
        Due.is("AT ONCE", x.persons(-1, 0), 10);
        Due.is("ONE", x.names(0), 1);
        Due.is("SPEAKERS", x.speakers(0), 2);
        Due.is("VOTES: 1, 6, 11, 16, 21, 26", x.swings(5, 81), 1);
        Due.is("VOTES", x.swings(5, 82), 0);
        Due.is("NOTES", x.notes(0), 3);
        Due.is("BOOTS", x.beds(0), 8);
        Due.is("BOOTS: the last one", x.beds(17), 4);
        Due.is("NAMED", x.named(2), 90);
        Due.is("PAYS: 1 and 6", x.settled(0), 7);
        Due.is("PAYS: 36", x.settled(5), -36);
    }

    private static void imageOfFullTables() {
        Due.says("Promise 41, Terms 4", "THE IMAGE: all that is and was told");
        AliasHouse x = told();
        fullTables(x);
        x.image(true);
        for (int i : new int[] {1, 4, 7, 9, 12, 13, 15, 17, 18, 20}) {
            thought(x, i);
        }
        for (int i : new int[] {0, 2, 5, 8, 10, 11, 14, 16, 19}) {
            thought(x, i);
        }
        x.image(false);
        fullTables(x);
        Due.is("the eleventh sighting", x.sighted(0, 0), -1);
        Due.is("the thirteenth pair", x.pair(0, 1, true), -1);
        Due.is("the eleventh word", x.says(0, 0, true), -1);
        Due.is("the seventh vote", x.vote(1), -1);
        Due.is("the thirteenth letter", x.letter(0, 0), -1);
        Due.is("the thirteenth letter", x.letter(1, 0), -1);
        Due.is("the ninth boot", x.boot(30), -1);
        Due.is("the ninth bed", x.bed(30, 30), -1);
        Due.is("the eleventh letter", x.box(0), -1);
        Due.is("the ninth loan", x.loan(0, 1, 1), -1);
    }

    private static void imageWithoutTape() {
        Due.says("Promise 41, Terms 4", "all .. but the TAPE");
        AliasHouse x = Due.house();
        Due.tape(x, "street 0 by 1;", 0);
        x.image(true);
        x.end(0);
        Due.tape(x, "street 2 by 3;street 4 by 5;", 0);
        x.image(false);
        Due.is("the TAPE as it is now", x.end(29), false);
        Due.is("two lines", x.text(3), 2);
        Due.is("beside 2", x.street(2, 2), 8);
        x.image(false);
        Due.is("empty as it is now", x.end(1), false);
        Due.is("not the text", x.look(13), 0);
    }

    private static void imageWithoutFault() {
        Due.says("Promise 41, Terms 4", "all .. but fault()");
        AliasHouse x = Due.house();
        Due.fault(x, 0, "seen 1/0;", 2, 7);
        x.image(true);
        Due.lines(x, 0, "seen 1;", 1);
        x.image(false);
        Due.is("of the latest text()", x.fault(0), 0);
        Due.is("without a place", x.fault(1), -1);
        Due.fault(x, 1, "alias", 1, 5);
        x.image(true);
        x.image(false);
        Due.is("of the latest text()", x.fault(0), 1);
        Due.is("its place", x.fault(1), 5);
    }

    private static void imageGoesOn() {
        Due.says("Promise 41, Terms 4", "THE IMAGE: all that is (STATE, too), and all goes on from it");
        AliasHouse x = after(3);
        x.image(true);
        x.hours(60);
        x.set(0, 4, 0);
        x.state(12345);
        x.image(false);
        for (int i = 3; i < DEEDS; i++) {
            Due.is("deed " + i, deed(x, i), true);
        }
        alike("the same deeds behind it", x, after(DEEDS));
        Due.is("six can be undone", x.look(14), 6);
        x.image(false);
        alike("and back", x, after(3));
    }
}
