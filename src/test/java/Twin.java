import java.util.ArrayDeque;
import java.util.ArrayList;
import java.util.Arrays;
import java.util.HashSet;
import java.util.List;
import java.util.Set;
import java.util.TreeSet;

/** The document written a second time, plainly and dearly: what is asked in thought is tried out in all ways. */
final class Twin {
    static final int NONE = -1;

    static final class Person implements Cloneable {
        int wits;
        int purse;

        Person copy() {
            Person p = new Person();
            p.wits = wits;
            p.purse = purse;
            return p;
        }
    }

    static final class Alias {
        int person;
        int rank;
        int home;
        int in;
        boolean out;
        int seen;
        boolean struck;

        Alias copy() {
            Alias a = new Alias();
            a.person = person;
            a.rank = rank;
            a.home = home;
            a.in = in;
            a.out = out;
            a.seen = seen;
            a.struck = struck;
            return a;
        }
    }

    /** What hours and deeds change. */
    static final class World {
        int draws;
        int debt;
        int cousins;
        int caught;
        int hour;
        int day;
        int[] eyes = new int[10];
        List<Person> persons = new ArrayList<>();
        List<Alias> aliases = new ArrayList<>();
        List<int[]> book = new ArrayList<>();

        World copy() {
            World w = new World();
            w.draws = draws;
            w.debt = debt;
            w.cousins = cousins;
            w.caught = caught;
            w.hour = hour;
            w.day = day;
            w.eyes = eyes.clone();
            for (Person p : persons) {
                w.persons.add(p.copy());
            }
            for (Alias a : aliases) {
                w.aliases.add(a.copy());
            }
            w.book.addAll(book);
            return w;
        }
    }

    interface Sum {
        int of(World w, int a);
    }

    interface Condition {
        boolean holds(World w, int a);
    }

    record LawLine(String word, Sum sum, Condition when) {
    }

    record TextFault(int which, int place) {
    }

    static final class Stop extends RuntimeException {
        final TextFault fault;

        Stop(int which, int place) {
            fault = new TextFault(which, place);
        }
    }

    World w = new World();
    List<LawLine> law = new ArrayList<>();
    List<int[]> shares = new ArrayList<>();
    List<Object[]> diary = new ArrayList<>();
    List<int[]> ways = new ArrayList<>();
    List<List<int[]>> told = new ArrayList<>();
    ArrayDeque<World> past = new ArrayDeque<>();
    StringBuilder tape = new StringBuilder();
    TextFault fault = new TextFault(0, NONE);
    Twin image;

    static final int SIGHTINGS = 0, PAIRS = 1, WORDS = 2, VOTES = 3, NOTE0 = 4, NOTE1 = 5, BOOTS = 6, BEDS = 7, BOX = 8, LOANS = 9;
    static final int[] ROOM = {10, 12, 10, 6, 12, 12, 8, 8, 10, 8};

    Twin() {
        for (int i = 0; i < ROOM.length; i++) {
            told.add(new ArrayList<>());
        }
    }

    private void takeOver(Twin from) {
        w = from.w.copy();
        law = new ArrayList<>(from.law);
        shares = new ArrayList<>(from.shares);
        diary = new ArrayList<>(from.diary);
        ways = new ArrayList<>(from.ways);
        told = new ArrayList<>();
        for (List<int[]> list : from.told) {
            told.add(new ArrayList<>(list));
        }
    }

    private static boolean bad(int v, int least, int most) {
        return v < least || v > most;
    }

    int state(int v) {
        int was = w.draws;
        w.draws = v;
        past.clear();
        return was;
    }

    int person(int wits, int purse) {
        if (bad(wits, 0, 9) || bad(purse, 0, 9999) || w.persons.size() == 6) {
            return NONE;
        }
        Person p = new Person();
        p.wits = wits;
        p.purse = purse;
        w.persons.add(p);
        past.clear();
        return w.persons.size() - 1;
    }

    int alias(int person, int rank, int home) {
        if (bad(person, 0, w.persons.size() - 1) || bad(rank, 0, 9) || bad(home, 0, 9) || w.aliases.size() == 18) {
            return NONE;
        }
        Alias a = new Alias();
        a.person = person;
        a.rank = rank;
        a.home = home;
        a.in = home;
        w.aliases.add(a);
        past.clear();
        return w.aliases.size() - 1;
    }

    boolean set(int what, int who, int v) {
        int[] counts = {10, w.persons.size(), w.persons.size(), w.aliases.size(), w.aliases.size()};
        int[] most = {9, 9, 9999, 9, 99};
        if (bad(what, 0, 4) || bad(who, 0, counts[what] - 1) || bad(v, 0, most[what])) {
            return false;
        }
        if (what == 0) {
            w.eyes[who] = v;
        } else if (what == 1) {
            w.persons.get(who).wits = v;
        } else if (what == 2) {
            w.persons.get(who).purse = v;
        } else if (what == 3) {
            w.aliases.get(who).rank = v;
        } else {
            w.aliases.get(who).seen = v;
        }
        past.clear();
        return true;
    }

    private void remember() {
        past.push(w.copy());
        if (past.size() > 6) {
            past.removeLast();
        }
    }

    private void write(boolean thought, int what, int who, int much) {
        if (!thought && w.book.size() < 150) {
            w.book.add(new int[] {w.day, w.hour, what, who, much});
        }
    }

    boolean act(int what, int who, int v) {
        if (what == 0) {
            if (bad(who, 0, w.aliases.size() - 1) || bad(v, 0, 9) || w.aliases.get(who).struck) {
                return false;
            }
            remember();
            w.aliases.get(who).out = true;
            w.aliases.get(who).in = v;
            return true;
        }
        if (what == 1) {
            if (bad(who, 0, w.aliases.size() - 1) || !w.aliases.get(who).out) {
                return false;
            }
            remember();
            lie(w.aliases.get(who));
            return true;
        }
        if (what == 2) {
            if (bad(who, 0, w.persons.size() - 1) || w.debt == 0 || w.persons.get(who).purse == 0) {
                return false;
            }
            remember();
            int much = Math.min(w.debt, w.persons.get(who).purse);
            w.debt -= much;
            w.persons.get(who).purse -= much;
            write(false, 4, who, much);
            return true;
        }
        return false;
    }

    private static void lie(Alias a) {
        a.out = false;
        a.in = a.home;
    }

    int hours(int n) {
        if (bad(n, 1, 60) || w.day + (w.hour + n) / 24 > 990) {
            return NONE;
        }
        int was = w.caught;
        for (int i = 0; i < n; i++) {
            remember();
            hour(false);
        }
        return w.caught - was;
    }

    private void hour(boolean thought) {
        for (Object[] line : diary) {
            if ((int) line[0] == w.day && (int) line[1] == w.hour) {
                int who = (int) line[3];
                int v = (int) line[4];
                switch ((String) line[2]) {
                    case "walk" -> {
                        if (!w.aliases.get(who).struck) {
                            w.aliases.get(who).out = true;
                            w.aliases.get(who).in = v;
                        }
                    }
                    case "give" -> w.persons.get(who).purse = Math.min(9999, w.persons.get(who).purse + v);
                    case "eyes" -> w.eyes[who] = v;
                    default -> lie(w.aliases.get(who));
                }
            }
        }
        for (int i = 0; i < w.aliases.size(); i++) {
            Alias a = w.aliases.get(i);
            int number = i;
            List<int[]> own = shares.stream().filter(s -> s[0] == number).toList();
            List<int[]> current = own.stream().filter(s -> s[1] <= w.hour && w.hour <= s[2]).toList();
            if (!a.struck && !current.isEmpty()) {
                a.out = true;
                a.in = current.get(0)[3];
            } else if (!a.struck && !own.isEmpty()) {
                lie(a);
            }
        }
        for (int p = 0; p < w.persons.size(); p++) {
            int best = NONE;
            for (int i = w.aliases.size() - 1; i >= 0; i--) {
                Alias a = w.aliases.get(i);
                if (a.person == p && a.out && (best == NONE || a.rank >= w.aliases.get(best).rank)) {
                    best = i;
                }
            }
            for (int i = 0; i < w.aliases.size(); i++) {
                Alias a = w.aliases.get(i);
                if (a.person == p && a.out && i != best) {
                    w.cousins++;
                    if (w.persons.get(p).purse > 0) {
                        w.persons.get(p).purse--;
                    } else {
                        w.debt++;
                    }
                    write(thought, 2, i, a.in);
                }
            }
        }
        for (int i = 0; i < w.aliases.size(); i++) {
            Alias a = w.aliases.get(i);
            if (!a.out) {
                continue;
            }
            int chance = tells("seen", i);
            boolean seen = false;
            if (thought) {
                seen = chance >= 500;
            } else if (chance > 0) {
                w.draws = w.draws * 1664525 + 1013904223;
                seen = Integer.toUnsignedLong(w.draws) / 256 % 1000 < chance;
            }
            if (seen) {
                boolean with = false;
                for (int j = 0; j < w.aliases.size(); j++) {
                    Alias b = w.aliases.get(j);
                    with |= j != i && b.out && b.in == a.in && b.person == a.person;
                }
                a.seen = Math.min(99, a.seen + (with ? 30 : 10));
                write(thought, with ? 1 : 0, i, a.seen);
            }
        }
        for (int i = 0; i < w.aliases.size(); i++) {
            Alias a = w.aliases.get(i);
            if (a.out) {
                Person p = w.persons.get(a.person);
                p.purse = Math.min(9999, p.purse + tells("gains", i));
                int costs = tells("costs", i);
                if (costs > p.purse) {
                    w.debt += costs - p.purse;
                    p.purse = 0;
                } else {
                    p.purse -= costs;
                }
            }
        }
        for (int i = 0; i < w.aliases.size(); i++) {
            Alias a = w.aliases.get(i);
            if (!a.struck && a.seen > 50) {
                a.struck = true;
                lie(a);
                w.caught++;
                write(thought, 3, i, a.seen);
            }
        }
        if (++w.hour == 24) {
            w.hour = 0;
            w.day++;
            for (Alias a : w.aliases) {
                a.seen = Math.max(0, a.seen - 2);
            }
        }
    }

    int tells(String word, int i) {
        Alias a = w.aliases.get(i);
        int v = switch (word) {
            case "seen" -> 100 * w.eyes[a.in] - 50 * w.persons.get(a.person).wits;
            case "costs" -> 1 + a.rank;
            default -> 2 * a.rank;
        };
        for (LawLine line : law) {
            if (line.word.equals(word) && (line.when == null || line.when.holds(w, i))) {
                v = line.sum.of(w, i);
                break;
            }
        }
        return Math.max(0, Math.min(v, word.equals("seen") ? 1000 : 99));
    }

    private static int worth(World w, String word, int i) {
        Alias a = w.aliases.get(i);
        return switch (word) {
            case "rank" -> a.rank;
            case "wits" -> w.persons.get(a.person).wits;
            case "eyes" -> w.eyes[a.in];
            case "known" -> a.seen;
            case "purse" -> w.persons.get(a.person).purse;
            case "hour" -> w.hour;
            case "street" -> a.in;
            case "day" -> w.day;
            default -> {
                int count = 0;
                for (int j = 0; j < w.aliases.size(); j++) {
                    count += j != i && w.aliases.get(j).out && w.aliases.get(j).in == a.in ? 1 : 0;
                }
                yield count;
            }
        };
    }

    int feed(int... five) {
        if (tape.length() + 20 > 400) {
            return NONE;
        }
        for (int v : five) {
            for (byte b : java.nio.ByteBuffer.allocate(4).putInt(v).array()) {
                tape.append((char) (b & 255));
            }
        }
        return tape.length();
    }

    boolean end(int n) {
        if (n < 0 || n > tape.length()) {
            return false;
        }
        tape.setLength(n);
        return true;
    }

    // the reading of texts: straight from the characters

    private String source;
    private int pos;

    private void blanks() {
        while (pos < source.length() && (source.charAt(pos) == ' ' || source.charAt(pos) == '\n')) {
            pos++;
        }
    }

    /** The token at the place, without stepping over it; empty at the end. */
    private String token() {
        blanks();
        java.util.regex.Matcher m = java.util.regex.Pattern.compile("[a-zA-Z]+|[0-9]+|.", java.util.regex.Pattern.DOTALL).matcher(source);
        return m.find(pos) ? m.group() : "";
    }

    private boolean is(String t) {
        return token().equals(t);
    }

    private boolean skip(String t) {
        if (!is(t)) {
            return false;
        }
        pos += t.length();
        return true;
    }

    private void need(String t) {
        if (!skip(t)) {
            throw new Stop(1, pos);
        }
    }

    private int number(int least, int most) {
        String t = token();
        if (!t.matches("[0-9]{1,4}")) {
            throw new Stop(1, pos);
        }
        int v = Integer.parseInt(t);
        if (v < least || v > most) {
            throw new Stop(2, pos);
        }
        pos += t.length();
        return v;
    }

    int text(int k) {
        source = tape.toString();
        pos = 0;
        tape.setLength(0);
        fault = new TextFault(0, NONE);
        if (k < 0 || k > 3) {
            return NONE;
        }
        List<LawLine> newLaw = new ArrayList<>();
        List<int[]> rows = new ArrayList<>();
        List<Object[]> newDiary = new ArrayList<>();
        int count = 0;
        try {
            while (!token().isEmpty()) {
                String first = token();
                boolean opens = switch (k) {
                    case 0 -> Set.of("seen", "costs", "gains").contains(first);
                    case 1 -> first.equals("alias");
                    case 2 -> first.equals("on");
                    default -> first.equals("street");
                };
                if (!opens) {
                    throw new Stop(1, pos);
                }
                if (count == 16) {
                    throw new Stop(3, pos);
                }
                pos += first.length();
                count++;
                if (k == 0) {
                    Sum sum = sum();
                    newLaw.add(new LawLine(first, sum, skip("when") ? any(0) : null));
                } else if (k == 1) {
                    int a = number(0, w.aliases.size() - 1);
                    need("from");
                    int from = number(0, 23);
                    need("to");
                    int to = number(from, 23);
                    need("in");
                    rows.add(new int[] {a, from, to, number(0, 9)});
                } else if (k == 2) {
                    newDiary.add(diaryLine());
                } else {
                    int a = number(0, 9);
                    need("by");
                    int place = pos;
                    blanks();
                    place = pos;
                    int b = number(0, 9);
                    if (a == b) {
                        throw new Stop(2, place);
                    }
                    rows.add(new int[] {a, b});
                }
                need(";");
            }
        } catch (Stop stop) {
            fault = stop.fault;
            return NONE;
        }
        if (k == 0) {
            law = newLaw;
        } else if (k == 1) {
            shares = rows;
        } else if (k == 2) {
            diary = newDiary;
        } else {
            ways = rows;
        }
        if (k == 1 || k == 2) {
            past.clear();
        }
        return count;
    }

    private Object[] diaryLine() {
        int day = number(0, 999);
        need("at");
        int hour = number(0, 23);
        String deed = token();
        int who;
        int v = 0;
        if (skip("walk")) {
            who = number(0, w.aliases.size() - 1);
            v = number(0, 9);
        } else if (skip("give")) {
            who = number(0, w.persons.size() - 1);
            v = number(1, 999);
        } else if (skip("eyes")) {
            who = number(0, 9);
            v = number(0, 9);
        } else if (skip("lie")) {
            who = number(0, w.aliases.size() - 1);
        } else {
            throw new Stop(1, pos);
        }
        return new Object[] {day, hour, deed, who, v};
    }

    private Condition any(int open) {
        Condition left = all(open);
        while (skip("or")) {
            Condition a = left;
            Condition b = all(open);
            left = (w, i) -> a.holds(w, i) || b.holds(w, i);
        }
        return left;
    }

    private Condition all(int open) {
        Condition left = one(open);
        while (skip("and")) {
            Condition a = left;
            Condition b = one(open);
            left = (w, i) -> a.holds(w, i) && b.holds(w, i);
        }
        return left;
    }

    private Condition one(int open) {
        if (is("not") || is("(")) {
            if (open == 8) {
                throw new Stop(3, pos);
            }
            if (skip("not")) {
                Condition c = one(open + 1);
                return (w, i) -> !c.holds(w, i);
            }
            need("(");
            Condition c = any(open + 1);
            need(")");
            return c;
        }
        Sum a = sum();
        if (skip("<")) {
            Sum b = sum();
            return (w, i) -> a.of(w, i) < b.of(w, i);
        }
        if (skip("=")) {
            Sum b = sum();
            return (w, i) -> a.of(w, i) == b.of(w, i);
        }
        need(">");
        Sum b = sum();
        return (w, i) -> a.of(w, i) > b.of(w, i);
    }

    private Sum sum() {
        Sum left = product();
        while (true) {
            Sum a = left;
            if (skip("+")) {
                Sum b = product();
                left = (w, i) -> a.of(w, i) + b.of(w, i);
            } else if (skip("-")) {
                Sum b = product();
                left = (w, i) -> a.of(w, i) - b.of(w, i);
            } else {
                return left;
            }
        }
    }

    private Sum product() {
        Sum left = unit();
        while (true) {
            Sum a = left;
            if (skip("*")) {
                Sum b = unit();
                left = (w, i) -> a.of(w, i) * b.of(w, i);
            } else if (skip("/")) {
                int b = number(1, 9999);
                left = (w, i) -> a.of(w, i) / b;
            } else {
                return left;
            }
        }
    }

    private Sum unit() {
        String t = token();
        if (Set.of("rank", "wits", "eyes", "known", "purse", "hour", "street", "others", "day").contains(t)) {
            pos += t.length();
            return (w, i) -> worth(w, t, i);
        }
        int v = number(0, 9999);
        return (w, i) -> v;
    }

    int fault(int what) {
        return what == 0 ? fault.which : what == 1 ? fault.place : NONE;
    }

    private static int bit(boolean b) {
        return b ? 1 : 0;
    }

    int of(int i, int what) {
        if (bad(i, 0, w.aliases.size() - 1)) {
            return NONE;
        }
        Alias a = w.aliases.get(i);
        return switch (what) {
            case 0 -> a.person;
            case 1 -> a.rank;
            case 2 -> a.home;
            case 3 -> a.in;
            case 4 -> bit(a.out);
            case 5 -> a.seen;
            case 6 -> bit(a.struck);
            case 7 -> tells("seen", i);
            case 8 -> tells("costs", i);
            case 9 -> tells("gains", i);
            default -> NONE;
        };
    }

    interface Choice {
        boolean takes(Alias a);
    }

    private int aliasesThat(Choice c) {
        int set = 0;
        for (int i = 0; i < w.aliases.size(); i++) {
            set += c.takes(w.aliases.get(i)) ? 1 << i : 0;
        }
        return set;
    }

    int who(int p, int what) {
        if (bad(p, 0, w.persons.size() - 1)) {
            return NONE;
        }
        return switch (what) {
            case 0 -> w.persons.get(p).wits;
            case 1 -> w.persons.get(p).purse;
            case 2 -> aliasesThat(a -> a.person == p);
            case 3 -> aliasesThat(a -> a.person == p && a.out);
            default -> NONE;
        };
    }

    private boolean beside(int a, int b) {
        return ways.stream().anyMatch(r -> r[0] == a && r[1] == b || r[0] == b && r[1] == a);
    }

    int street(int s, int what) {
        if (bad(s, 0, 9)) {
            return NONE;
        }
        int set = 0;
        for (int t = 0; t < 10; t++) {
            set += beside(s, t) ? 1 << t : 0;
        }
        return switch (what) {
            case 0 -> w.eyes[s];
            case 1 -> aliasesThat(a -> a.out && a.in == s);
            case 2 -> set;
            default -> NONE;
        };
    }

    int book(int i, int what) {
        return bad(i, 0, w.book.size() - 1) || bad(what, 0, 4) ? NONE : w.book.get(i)[what];
    }

    int goes(int n, int what) {
        if (bad(n, 1, 60) || bad(what, 0, 3)) {
            return NONE;
        }
        World real = w;
        w = w.copy();
        for (int i = 0; i < n; i++) {
            hour(true);
        }
        int[] answers = {w.persons.stream().mapToInt(p -> p.purse).sum(), w.debt, w.caught, w.cousins};
        w = real;
        return answers[what];
    }

    int keeps(int i) {
        if (bad(i, 0, w.aliases.size() - 1)) {
            return NONE;
        }
        World real = w;
        w = w.copy();
        int passed = 0;
        while (passed <= 100 && !w.aliases.get(i).struck) {
            hour(true);
            passed++;
        }
        w = real;
        return passed > 100 ? NONE : passed;
    }

    int tell(int list, int... row) {
        if (told.get(list).size() == ROOM[list]) {
            return NONE;
        }
        told.get(list).add(row);
        return told.get(list).size();
    }

    int wipe(int list) {
        told.get(list).clear();
        return 0;
    }

    int sighted(int minute, int street) {
        return minute == NONE ? wipe(SIGHTINGS) : bad(minute, 0, 99) || bad(street, 0, 9) ? NONE : tell(SIGHTINGS, minute, street);
    }

    private int[][] minutes() {
        int[][] d = new int[10][10];
        for (int a = 0; a < 10; a++) {
            for (int b = 0; b < 10; b++) {
                d[a][b] = a == b ? 0 : beside(a, b) ? 5 : 9999;
            }
        }
        for (int c = 0; c < 10; c++) {
            for (int a = 0; a < 10; a++) {
                for (int b = 0; b < 10; b++) {
                    d[a][b] = Math.min(d[a][b], d[a][c] + d[c][b]);
                }
            }
        }
        return d;
    }

    int persons(int a, int b) {
        int[][] d = minutes();
        if (a == NONE) {
            List<int[]> sorted = new ArrayList<>(told.get(SIGHTINGS));
            sorted.sort((x, y) -> x[0] - y[0]);
            return fewest(sorted, 0, new ArrayList<>(), d);
        }
        if (bad(a, 0, 9) || bad(b, 0, 9)) {
            return NONE;
        }
        return d[a][b] >= 9999 ? NONE : d[a][b];
    }

    private int fewest(List<int[]> sightings, int i, List<int[]> last, int[][] d) {
        if (i == sightings.size()) {
            return last.size();
        }
        int[] now = sightings.get(i);
        int best = 99;
        for (int p = 0; p < last.size(); p++) {
            int[] was = last.get(p);
            if (d[was[1]][now[1]] <= now[0] - was[0]) {
                last.set(p, now);
                best = Math.min(best, fewest(sightings, i + 1, last, d));
                last.set(p, was);
            }
        }
        last.add(now);
        best = Math.min(best, fewest(sightings, i + 1, last, d));
        last.remove(last.size() - 1);
        return best;
    }

    int pair(int a, int b, boolean one) {
        return a == NONE ? wipe(PAIRS) : bad(a, 0, 9) || bad(b, 0, 9) || a == b ? NONE : tell(PAIRS, a, b, bit(one));
    }

    private int most;
    private int least;

    int names(int what) {
        most = NONE;
        least = 99;
        splits(new int[10], 0, 0);
        return what == 0 ? most : what == 1 ? bit(least < 99) : what == 2 ? (least < 99 ? least : NONE) : NONE;
    }

    /** All ways to lead ten names to persons. */
    private void splits(int[] person, int name, int used) {
        if (name == 10) {
            boolean ones = true;
            boolean others = true;
            for (int[] pair : told.get(PAIRS)) {
                boolean alike = person[pair[0]] == person[pair[1]];
                ones &= pair[2] == 0 || alike;
                others &= pair[2] == 1 || !alike;
            }
            most = ones ? Math.max(most, used) : most;
            least = ones && others ? Math.min(least, used) : least;
            return;
        }
        for (int p = 0; p <= used; p++) {
            person[name] = p;
            splits(person, name + 1, Math.max(used, p + 1));
        }
    }

    int says(int a, int b, boolean truly) {
        return a == NONE ? wipe(WORDS) : bad(a, 0, 7) || bad(b, 0, 7) ? NONE : tell(WORDS, a, b, bit(truly));
    }

    int speakers(int what) {
        List<Integer> ways = new ArrayList<>();
        for (int set = 0; set < 256; set++) {
            int s = set;
            if (told.get(WORDS).stream().allMatch(r -> {
                boolean speakerTrue = (s >> r[0] & 1) == 1;
                boolean otherTrue = (s >> r[1] & 1) == 1;
                boolean said = r[2] == 1 ? otherTrue : !otherTrue;
                return speakerTrue ? said : !said;
            })) {
                ways.add(set);
            }
        }
        return switch (what) {
            case 0 -> ways.size();
            case 1 -> ways.stream().mapToInt(Integer::bitCount).max().orElse(NONE);
            case 2 -> ways.stream().reduce((a, b) -> a & b).orElse(0);
            default -> NONE;
        };
    }

    int vote(int weight) {
        return weight == NONE ? wipe(VOTES) : bad(weight, 1, 30) ? NONE : tell(VOTES, weight);
    }

    int swings(int i, int q) {
        List<int[]> votes = told.get(VOTES);
        if (bad(q, 1, 180) || bad(i, NONE, votes.size() - 1)) {
            return NONE;
        }
        if (i == NONE) {
            int never = 0;
            for (int j = 0; j < votes.size(); j++) {
                never += swings(j, q) == 0 ? 1 : 0;
            }
            return never;
        }
        List<Integer> sums = new ArrayList<>(List.of(0));
        for (int j = 0; j < votes.size(); j++) {
            if (j != i) {
                int v = votes.get(j)[0];
                sums.addAll(sums.stream().map(s -> s + v).toList());
            }
        }
        return (int) sums.stream().filter(s -> s < q && s + votes.get(i)[0] >= q).count();
    }

    int least(int what) {
        int[] perHour = new int[24];
        for (int[] s : shares) {
            for (int h = s[1]; h <= s[2]; h++) {
                perHour[h]++;
            }
        }
        int max = Arrays.stream(perHour).max().getAsInt();
        int first = 0;
        while (perHour[first] < max) {
            first++;
        }
        TreeSet<Integer> sets = new TreeSet<>((a, b) -> Integer.bitCount(a) != Integer.bitCount(b) ? Integer.bitCount(a) - Integer.bitCount(b) : a - b);
        for (int set = 0; set < 1024; set++) {
            int covered = set;
            for (int s = 0; s < 10; s++) {
                covered |= (set >> s & 1) == 1 ? street(s, 2) : 0;
            }
            if (covered == 1023) {
                sets.add(set);
            }
        }
        return switch (what) {
            case 0 -> coats();
            case 1 -> first;
            case 2 -> Integer.bitCount(sets.first());
            case 3 -> sets.first();
            default -> NONE;
        };
    }

    /** Line by line by its first hour, each takes a coat that is back. */
    private int coats() {
        List<int[]> sorted = new ArrayList<>(shares);
        sorted.sort((a, b) -> a[1] - b[1]);
        List<Integer> backAt = new ArrayList<>();
        for (int[] s : sorted) {
            int coat = 0;
            while (coat < backAt.size() && backAt.get(coat) >= s[1]) {
                coat++;
            }
            if (coat == backAt.size()) {
                backAt.add(0);
            }
            backAt.set(coat, s[2]);
        }
        return backAt.size();
    }

    int birthdays(int n, int d, int what) {
        if (bad(n, 1, 8) || bad(d, 1, 20) || bad(what, 0, 1)) {
            return NONE;
        }
        java.math.BigInteger below = java.math.BigInteger.valueOf(d).pow(n);
        java.math.BigInteger above = below;
        java.math.BigInteger apart = java.math.BigInteger.ONE;
        for (int i = 0; i < n; i++) {
            apart = apart.multiply(java.math.BigInteger.valueOf(Math.max(0, d - i)));
        }
        above = above.subtract(apart);
        return (what == 0 ? above : below).divide(above.gcd(below)).intValueExact();
    }

    int letter(int note, int letter) {
        if (bad(note, 0, 1)) {
            return NONE;
        }
        return letter == NONE ? wipe(NOTE0 + note) : bad(letter, 0, 25) ? NONE : tell(NOTE0 + note, letter);
    }

    int notes(int what) {
        List<Integer> is = told.get(NOTE0).stream().map(r -> r[0]).toList();
        List<Integer> was = told.get(NOTE1).stream().map(r -> r[0]).toList();
        if (what == 0) {
            for (int s = 0; s < 26; s++) {
                int shift = s;
                if (was.stream().map(v -> (v + shift) % 26).toList().equals(is)) {
                    return s;
                }
            }
            return NONE;
        }
        List<Integer> back = new ArrayList<>(was);
        java.util.Collections.reverse(back);
        return what == 1 ? bit(back.equals(is)) : NONE;
    }

    int boot(int size) {
        return size == NONE ? wipe(BOOTS) : bad(size, 30, 50) ? NONE : tell(BOOTS, size);
    }

    int bed(int a, int b) {
        return a == NONE ? wipe(BEDS) : bad(a, 30, 50) || bad(b, 30, 50) || b < a ? NONE : tell(BEDS, a, b);
    }

    private int[] bestBeds;
    private int bestBooted;

    int beds(int what) {
        int n = told.get(BOOTS).size();
        if (what != 0 && bad(what, 10, 9 + n)) {
            return NONE;
        }
        bestBooted = NONE;
        lay(new int[n], 0, 0, 0);
        return what == 0 ? bestBooted : bestBeds[what - 10];
    }

    private void lay(int[] bed, int i, int taken, int booted) {
        if (booted + bed.length - i <= bestBooted) {
            return;
        }
        if (i == bed.length) {
            bestBooted = booted;
            bestBeds = bed.clone();
            return;
        }
        int size = told.get(BOOTS).get(i)[0];
        for (int b = 0; b < told.get(BEDS).size(); b++) {
            int[] range = told.get(BEDS).get(b);
            if ((taken >> b & 1) == 0 && size >= range[0] && size <= range[1]) {
                bed[i] = b;
                lay(bed, i + 1, taken | 1 << b, booted + 1);
            }
        }
        bed[i] = NONE;
        lay(bed, i + 1, taken, booted);
    }

    int box(int letter) {
        return letter == NONE ? wipe(BOX) : bad(letter, 0, 25) ? NONE : tell(BOX, letter);
    }

    int named(int k) {
        if (bad(k, 0, 5)) {
            return NONE;
        }
        Set<List<Integer>> rows = new HashSet<>();
        lay(new ArrayList<>(), new HashSet<>(), k, rows);
        return rows.size();
    }

    private void lay(List<Integer> row, Set<Integer> used, int k, Set<List<Integer>> rows) {
        if (row.size() == k) {
            rows.add(new ArrayList<>(row));
            return;
        }
        for (int i = 0; i < told.get(BOX).size(); i++) {
            if (used.add(i)) {
                row.add(told.get(BOX).get(i)[0]);
                lay(row, used, k, rows);
                row.remove(row.size() - 1);
                used.remove(i);
            }
        }
    }

    int net(int width, int what) {
        if (bad(width, 1, 10) || bad(what, 0, 1)) {
            return NONE;
        }
        int best = 0;
        int first = 0;
        for (int s = 10 - width; s >= 0; s--) {
            int from = s;
            int caught = Integer.bitCount(aliasesThat(a -> !a.struck && a.in >= from && a.in < from + width));
            if (caught >= best) {
                best = caught;
                first = s;
            }
        }
        return what == 0 ? best : first;
    }

    int hoop(int n, int k, int what) {
        if (bad(n, 1, 60) || bad(k, 1, 60) || bad(what, 0, 1)) {
            return NONE;
        }
        List<Integer> touched = new ArrayList<>();
        int stone = 0;
        while (!touched.contains(stone)) {
            touched.add(stone);
            stone = (stone + k) % n;
        }
        return what == 0 ? touched.size() : touched.get(touched.size() - 1);
    }

    int loan(int of, int to, int v) {
        return of == NONE ? wipe(LOANS) : bad(of, 0, 5) || bad(to, 0, 5) || of == to || bad(v, 1, 99) ? NONE : tell(LOANS, of, to, v);
    }

    int settled(int who) {
        int[] get = new int[6];
        for (int[] loan : told.get(LOANS)) {
            get[loan[0]] += loan[2];
            get[loan[1]] -= loan[2];
        }
        return who == NONE ? gifts(get, 0) : bad(who, 0, 5) ? -10000 : get[who];
    }

    /** The first who is not even settles with each other of the other sign in turn. */
    private static int gifts(int[] get, int from) {
        while (from < 6 && get[from] == 0) {
            from++;
        }
        if (from == 6) {
            return 0;
        }
        int best = 99;
        for (int i = from + 1; i < 6; i++) {
            if (Long.signum(get[i]) == -Long.signum(get[from])) {
                int[] rest = get.clone();
                rest[i] += rest[from];
                rest[from] = 0;
                best = Math.min(best, 1 + gifts(rest, from + 1));
            }
        }
        return best;
    }

    private static final boolean[][] WINS = wins();

    private static boolean[][] wins() {
        boolean[][] wins = new boolean[41][41];
        for (int a = 0; a <= 40; a++) {
            for (int b = 0; b <= 40; b++) {
                for (int t = 1; t <= 40; t++) {
                    wins[a][b] |= t <= a && !wins[a - t][b] || t <= b && !wins[a][b - t] || t <= a && t <= b && !wins[a - t][b - t];
                }
            }
        }
        return wins;
    }

    int game(int a, int b, int what) {
        if (bad(a, 0, 40) || bad(b, 0, 40) || bad(what, 0, 1)) {
            return NONE;
        }
        int[] best = null;
        for (int x = 0; x <= a; x++) {
            for (int y = 0; y <= b; y++) {
                boolean may = x + y > 0 && (x == 0 || y == 0 || x == y);
                if (may && !WINS[a - x][b - y] && (best == null || x + y < best[0] + best[1])) {
                    best = new int[] {x, y};
                }
            }
        }
        return best == null ? NONE : best[what];
    }

    boolean undo() {
        if (past.isEmpty()) {
            return false;
        }
        w = past.pop();
        return true;
    }

    boolean image(boolean taken) {
        if (taken) {
            image = new Twin();
            image.takeOver(this);
            return true;
        }
        if (image == null) {
            return false;
        }
        takeOver(image);
        past.clear();
        return true;
    }

    int look(int what) {
        return switch (what) {
            case 0 -> w.persons.size();
            case 1 -> w.aliases.size();
            case 2 -> w.debt;
            case 3 -> w.cousins;
            case 4 -> w.caught;
            case 5 -> w.hour;
            case 6 -> w.day;
            case 7 -> aliasesThat(a -> a.struck);
            case 8 -> w.book.size();
            case 9 -> w.draws;
            case 10 -> law.size();
            case 11 -> shares.size();
            case 12 -> diary.size();
            case 13 -> ways.size();
            case 14 -> past.size();
            default -> NONE;
        };
    }
}
