import java.util.Random;

/** The same calls, by lot, on a house and on its twin; the lot is the same each time. */
final class TwinTest {
    /** What later calls answer is free. */
    private static final int CALLS = 512;
    private static final int LOOKS = 180;

    private final Random lot;
    private final AliasHouse x = new AliasHouse();
    private final Twin t = new Twin();
    private final StringBuilder calls = new StringBuilder();
    private final String name;
    private int made = 0;
    private int wild = 8;

    private TwinTest(String name, long seed) {
        this.name = name;
        lot = new Random(seed);
    }

    public static void main(String[] args) {
        int runs = args.length > 0 ? Integer.parseInt(args[0]) : 400;
        for (int run = 0; run < runs && Due.wrong == 0; run++) {
            TwinTest test = new TwinTest("run " + run, run);
            test.wild = run % 3 == 0 ? 4 : 12;
            if (run % 5 != 0) {
                test.people();
            }
            test.play(run % 4, CALLS - LOOKS);
        }
        TwinTest far = new TwinTest("far day", 1);
        far.people();
        for (int i = 0; i < 400; i++) {
            far.is("hours(60)", far.x.hours(60), far.t.hours(60));
        }
        far.play(0, CALLS - 30);
        Due.finish("TwinTest");
    }

    /** Calls until there were so many; the rest of the calls that an object has looks what came of them. */
    private void play(int kind, int calls) {
        while (made < calls && Due.wrong == 0) {
            if (kind == 1) {
                hourCall();
            } else if (kind == 2) {
                thoughtCall(lot.nextInt(20));
            } else if (lot.nextInt(3) == 0) {
                thoughtCall(lot.nextInt(20));
            } else {
                hourCall();
            }
        }
        while (made < CALLS && Due.wrong == 0) {
            lookCall();
        }
        if (Due.wrong != 0) {
            System.out.println(this.calls);
        }
    }

    private void is(String call, long got, long want) {
        made++;
        calls.append(call).append(" -> ").append(want).append('\n');
        Due.is(name + ", call " + made + ": " + call, got, want);
    }

    private void is(String call, boolean got, boolean want) {
        is(call, got ? 1 : 0, want ? 1 : 0);
    }

    /** Mostly of least .. most. */
    private int in(int least, int most) {
        int dice = lot.nextInt(wild * 8);
        if (dice == 0) {
            return least - 1;
        }
        if (dice == 1) {
            return most + 1;
        }
        if (dice == 2) {
            return lot.nextInt();
        }
        if (dice == 3) {
            return lot.nextBoolean() ? least : most;
        }
        return least + lot.nextInt(Math.max(1, most - least + 1));
    }

    private void people() {
        for (int p = lot.nextInt(7); p >= 0; p--) {
            int wits = lot.nextInt(10);
            int purse = lot.nextInt(40);
            is("person(" + wits + ", " + purse + ")", x.person(wits, purse), t.person(wits, purse));
        }
        for (int a = lot.nextInt(20); a >= 0; a--) {
            int person = lot.nextInt(6);
            int rank = lot.nextInt(10);
            int home = lot.nextInt(10);
            is("alias(" + person + ", " + rank + ", " + home + ")", x.alias(person, rank, home), t.alias(person, rank, home));
        }
    }

    private void lookCall() {
        switch (lot.nextInt(6)) {
            case 0 -> {
                int what = lot.nextInt(17) - 1;
                is("look(" + what + ")", x.look(what), t.look(what));
            }
            case 1 -> {
                int i = lot.nextInt(t.look(1) + 2) - 1;
                int what = lot.nextInt(12) - 1;
                is("of(" + i + ", " + what + ")", x.of(i, what), t.of(i, what));
            }
            case 2 -> {
                int i = lot.nextInt(t.look(0) + 2) - 1;
                int what = lot.nextInt(6) - 1;
                is("who(" + i + ", " + what + ")", x.who(i, what), t.who(i, what));
            }
            case 3 -> {
                int i = lot.nextInt(12) - 1;
                int what = lot.nextInt(5) - 1;
                is("street(" + i + ", " + what + ")", x.street(i, what), t.street(i, what));
            }
            default -> {
                int i = lot.nextInt(t.look(8) + 2) - 1;
                int what = lot.nextInt(7) - 1;
                is("book(" + i + ", " + what + ")", x.book(i, what), t.book(i, what));
            }
        }
    }

    private void hourCall() {
        int what = in(0, 4);
        int a = in(0, Math.max(0, t.look(1) - 1));
        int p = in(0, Math.max(0, t.look(0) - 1));
        int s = in(0, 9);
        switch (lot.nextInt(21)) {
            case 0 -> {
                int v = lot.nextInt();
                is("state(" + v + ")", x.state(v), t.state(v));
            }
            case 1 -> {
                int purse = lot.nextBoolean() ? in(0, 30) : in(0, 9999);
                is("person(" + s + ", " + purse + ")", x.person(s, purse), t.person(s, purse));
            }
            case 2 -> {
                int rank = in(0, 9);
                is("alias(" + p + ", " + rank + ", " + s + ")", x.alias(p, rank, s), t.alias(p, rank, s));
            }
            case 3 -> {
                int who = what == 0 ? s : what < 3 ? p : a;
                int v = what == 2 ? in(0, 9999) : what == 4 ? in(0, 60) : in(0, 9);
                is("set(" + what + ", " + who + ", " + v + ")", x.set(what, who, v), t.set(what, who, v));
            }
            case 4, 5, 6, 7 -> {
                int deed = in(0, 2);
                int who = deed == 2 ? p : a;
                is("act(" + deed + ", " + who + ", " + s + ")", x.act(deed, who, s), t.act(deed, who, s));
            }
            case 8, 9, 10 -> {
                int n = lot.nextInt(3) == 0 ? in(1, 60) : in(1, 4);
                is("hours(" + n + ")", x.hours(n), t.hours(n));
            }
            case 11, 12 -> text();
            case 13 -> is("undo()", x.undo(), t.undo());
            case 14 -> {
                boolean taken = lot.nextBoolean();
                is("image(" + taken + ")", x.image(taken), t.image(taken));
            }
            case 15 -> {
                int of = in(0, 9);
                is("of(" + a + ", " + of + ")", x.of(a, of), t.of(a, of));
            }
            case 16 -> is("who(" + p + ", " + what + ")", x.who(p, what), t.who(p, what));
            case 17 -> is("street(" + s + ", " + what + ")", x.street(s, what), t.street(s, what));
            case 18 -> {
                int i = in(0, Math.max(0, t.look(8) - 1));
                is("book(" + i + ", " + what + ")", x.book(i, what), t.book(i, what));
            }
            case 19 -> {
                int n = in(1, 60);
                is("goes(" + n + ", " + what + ")", x.goes(n, what), t.goes(n, what));
                is("keeps(" + a + ")", x.keeps(a), t.keeps(a));
            }
            default -> {
                for (int i = 0; i < 15; i++) {
                    is("look(" + i + ")", x.look(i), t.look(i));
                }
            }
        }
    }

    private void thoughtCall(int kind) {
        int what = in(0, 2);
        int s = in(0, 9);
        int s2 = in(0, 9);
        boolean yes = lot.nextBoolean();
        int clear = lot.nextInt(14) == 0 ? -1 : 0;
        switch (kind) {
            case 0 -> {
                int minute = clear != 0 ? -1 : in(0, 40);
                is("sighted(" + minute + ", " + s + ")", x.sighted(minute, s), t.sighted(minute, s));
                is("persons(-1, " + s + ")", x.persons(-1, s), t.persons(-1, s));
            }
            case 1 -> is("persons(" + s + ", " + s2 + ")", x.persons(s, s2), t.persons(s, s2));
            case 2, 3 -> {
                int a = clear != 0 ? -1 : s;
                yes = lot.nextInt(4) == 0;
                is("pair(" + a + ", " + s2 + ", " + yes + ")", x.pair(a, s2, yes), t.pair(a, s2, yes));
            }
            case 4 -> is("names(" + what + ")", x.names(what), t.names(what));
            case 5 -> {
                int a = clear != 0 ? -1 : in(0, 7);
                int b = in(0, 7);
                is("says(" + a + ", " + b + ", " + yes + ")", x.says(a, b, yes), t.says(a, b, yes));
                is("speakers(" + what + ")", x.speakers(what), t.speakers(what));
            }
            case 6 -> {
                int v = clear != 0 ? -1 : in(1, 30);
                is("vote(" + v + ")", x.vote(v), t.vote(v));
            }
            case 7 -> {
                int i = in(-1, 5);
                int q = in(1, lot.nextBoolean() ? 180 : 60);
                is("swings(" + i + ", " + q + ")", x.swings(i, q), t.swings(i, q));
            }
            case 8 -> {
                int least = in(0, 3);
                is("least(" + least + ")", x.least(least), t.least(least));
            }
            case 9 -> {
                int n = in(1, 8);
                int d = in(1, 20);
                is("birthdays(" + n + ", " + d + ", " + what + ")", x.birthdays(n, d, what), t.birthdays(n, d, what));
            }
            case 10, 11 -> notes(clear);
            case 12 -> {
                int size = clear != 0 ? -1 : in(30, 50);
                is("boot(" + size + ")", x.boot(size), t.boot(size));
            }
            case 13 -> {
                int shortest = clear != 0 ? -1 : in(30, 50);
                int longest = in(30, 50);
                is("bed(" + shortest + ", " + longest + ")", x.bed(shortest, longest), t.bed(shortest, longest));
                for (int i = 9; i < 19; i++) {
                    is("beds(" + i + ")", x.beds(i), t.beds(i));
                }
                is("beds(0)", x.beds(0), t.beds(0));
                is("beds(" + s + ")", x.beds(s), t.beds(s));
            }
            case 14 -> {
                int letter = clear != 0 ? -1 : lot.nextBoolean() ? in(0, 25) : in(0, 3);
                is("box(" + letter + ")", x.box(letter), t.box(letter));
                int k = in(0, 5);
                is("named(" + k + ")", x.named(k), t.named(k));
            }
            case 15 -> {
                int w = in(1, 10);
                is("net(" + w + ", " + what + ")", x.net(w, what), t.net(w, what));
            }
            case 16 -> {
                int n = in(1, 60);
                int k = in(1, 60);
                is("hoop(" + n + ", " + k + ", " + what + ")", x.hoop(n, k, what), t.hoop(n, k, what));
            }
            case 17 -> {
                int of = clear != 0 ? -1 : in(0, 5);
                int to = in(0, 5);
                int v = lot.nextBoolean() ? in(1, 99) : in(1, 4);
                is("loan(" + of + ", " + to + ", " + v + ")", x.loan(of, to, v), t.loan(of, to, v));
                int who = in(-1, 5);
                is("settled(" + who + ")", x.settled(who), t.settled(who));
                is("settled(-1)", x.settled(-1), t.settled(-1));
            }
            case 18 -> {
                int a = in(0, 40);
                int b = in(0, 40);
                is("game(" + a + ", " + b + ", " + what + ")", x.game(a, b, what), t.game(a, b, what));
            }
            default -> text();
        }
    }

    private void notes(int clear) {
        int note = in(0, 1);
        int letter = clear != 0 ? -1 : in(0, 25);
        if (lot.nextInt(3) != 0) {
            is("letter(" + note + ", " + letter + ")", x.letter(note, letter), t.letter(note, letter));
        } else {
            int shift = lot.nextInt(26);
            boolean mirrored = lot.nextBoolean();
            int n = lot.nextInt(13);
            is("letter(0, -1)", x.letter(0, -1), t.letter(0, -1));
            is("letter(1, -1)", x.letter(1, -1), t.letter(1, -1));
            int[] row = new int[n];
            for (int i = 0; i < n; i++) {
                row[i] = lot.nextInt(26);
                is("letter(1, " + row[i] + ")", x.letter(1, row[i]), t.letter(1, row[i]));
            }
            for (int i = 0; i < n; i++) {
                int v = mirrored ? row[n - 1 - i] : (row[i] + shift) % 26;
                is("letter(0, " + v + ")", x.letter(0, v), t.letter(0, v));
            }
        }
        for (int what = -1; what <= 2; what++) {
            is("notes(" + what + ")", x.notes(what), t.notes(what));
        }
    }

    // texts by lot, some of them spoiled

    private void text() {
        int k = lot.nextInt(4);
        StringBuilder s = new StringBuilder();
        int lines = lot.nextInt(5) == 0 ? lot.nextInt(19) : lot.nextInt(5);
        for (int i = 0; i < lines; i++) {
            int before = s.length();
            s.append(switch (k) {
                case 0 -> lawLine();
                case 1 -> join("alias", "" + in(0, Math.max(0, t.look(1) - 1)), hoursAndStreet());
                case 2 -> diaryLine();
                default -> join("street", "" + in(0, 9), "by", "" + in(0, 9), ";");
            });
            if (s.length() > 400) {
                s.setLength(before);
                break;
            }
        }
        if (lot.nextInt(3) == 0) {
            spoil(s);
        }
        s.setLength(Math.min(400, s.length()));
        String text = s.toString();
        int length = 0;
        for (int i = 0; i < text.length(); i += 20) {
            int[] v = new int[5];
            for (int j = 0; j < 5; j++) {
                v[j] = Due.four(text, i + 4 * j);
            }
            length = t.feed(v);
            is("feed of \"" + text + "\"", x.feed(v[0], v[1], v[2], v[3], v[4]), length);
        }
        if (lot.nextInt(20) == 0) {
            is("feed(1, 2, 3, 4, 5)", x.feed(1, 2, 3, 4, 5), t.feed(1, 2, 3, 4, 5));
        }
        int end = lot.nextInt(12) == 0 ? in(-1, text.length() + 30) : text.length();
        is("end(" + end + ")", x.end(end), t.end(end));
        int asked = lot.nextInt(30) == 0 ? in(0, 3) : k;
        is("text(" + asked + ") of \"" + text + "\"", x.text(asked), t.text(asked));
        for (int what = -1; what <= 2; what++) {
            is("fault(" + what + ") of \"" + text + "\"", x.fault(what), t.fault(what));
        }
    }

    private void spoil(StringBuilder s) {
        String signs = ";+-*/()<=>. \n\t09azAZ#" + (char) 233 + (char) 0;
        for (int i = lot.nextInt(3); i >= 0 && s.length() > 0; i--) {
            int at = lot.nextInt(s.length());
            switch (lot.nextInt(4)) {
                case 0 -> s.deleteCharAt(at);
                case 1 -> s.insert(at, signs.charAt(lot.nextInt(signs.length())));
                case 2 -> s.setCharAt(at, signs.charAt(lot.nextInt(signs.length())));
                default -> s.setLength(at);
            }
        }
    }

    private String join(String... parts) {
        StringBuilder s = new StringBuilder();
        for (String part : parts) {
            s.append(part).append(lot.nextInt(12) == 0 ? "\n " : " ");
        }
        s.setLength(s.length() - 1);
        return s.toString();
    }

    private String hoursAndStreet() {
        int from = in(0, 23);
        int to = lot.nextInt(20) == 0 ? in(0, 23) : Math.max(from, in(0, 23));
        return join("from", "" + from, "to", "" + to, "in", "" + in(0, 9), ";");
    }

    private String diaryLine() {
        int soon = t.look(6) + (lot.nextInt(3) == 0 ? 1 : 0);
        String on = join("on", "" + (lot.nextInt(10) == 0 ? in(0, 999) : soon), "at", "" + in(0, 23));
        int lastAlias = Math.max(0, t.look(1) - 1);
        String deed = switch (lot.nextInt(4)) {
            case 0 -> join("walk", "" + in(0, lastAlias), "" + in(0, 9));
            case 1 -> join("give", "" + in(0, Math.max(0, t.look(0) - 1)), "" + in(1, 999));
            case 2 -> join("eyes", "" + in(0, 9), "" + in(0, 9));
            default -> join("lie", "" + in(0, lastAlias));
        };
        return on + " " + deed + ";";
    }

    private String lawLine() {
        String word = new String[] {"seen", "costs", "gains"}[lot.nextInt(3)];
        String when = lot.nextBoolean() ? "" : "when " + condition(0);
        return word + " " + sum() + when + ";";
    }

    private String sum() {
        StringBuilder s = new StringBuilder(product());
        for (int i = lot.nextInt(3); i > 0; i--) {
            s.append(lot.nextBoolean() ? "+" : "-").append(product());
        }
        return s.toString();
    }

    private String product() {
        StringBuilder s = new StringBuilder(unit());
        for (int i = lot.nextInt(3); i > 0; i--) {
            s.append(lot.nextBoolean() ? "*" + unit() : "/" + lot.nextInt(lot.nextBoolean() ? 40 : 10000));
        }
        return s.toString();
    }

    private String unit() {
        String[] words = {"rank", "wits", "eyes", "known", "purse", "hour", "street", "others", "day"};
        if (lot.nextInt(3) == 0) {
            return "" + lot.nextInt(lot.nextInt(8) == 0 ? 12000 : 700) + " ";
        }
        return words[lot.nextInt(words.length)] + " ";
    }

    private String condition(int depth) {
        StringBuilder s = new StringBuilder(single(depth));
        for (int i = lot.nextInt(depth > 3 ? 1 : 3); i > 0; i--) {
            s.append(lot.nextBoolean() ? " and " : " or ").append(single(depth));
        }
        return s.toString();
    }

    private String single(int depth) {
        int dice = lot.nextInt(6);
        if (dice == 0 && depth < 10) {
            return "not " + single(depth + 1);
        }
        if (dice == 1 && depth < 10) {
            return "(" + condition(depth + 1) + ")";
        }
        if (dice == 2 && lot.nextInt(6) == 0) {
            StringBuilder s = new StringBuilder();
            int open = 7 + lot.nextInt(3);
            for (int i = 0; i < open; i++) {
                s.append(lot.nextBoolean() ? "not " : "not (");
            }
            return s + "1=1";
        }
        return sum() + "<=>".charAt(lot.nextInt(3)) + sum();
    }
}
