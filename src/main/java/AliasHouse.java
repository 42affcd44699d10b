import java.util.Arrays;

/**
 * A port in which aliases lodge with one another: what is told of them, what hours do to them, and what can be found
 * out in thought. The document of the project says what each call answers.
 */
public final class AliasHouse {
    public static final int NONE = -1;

    private static final int STREETS = 10;
    private static final int PERSONS = 6;
    private static final int ALIASES = 18;
    private static final int MOST_PURSE = 9999;
    private static final int MOST_SEEN = 99;
    private static final int MOST_HOURS = 60;
    private static final int MOST_KEPT = 100;
    private static final int LAST_DAY = 990;
    private static final int UNDOS = 6;
    private static final int NO_SETTLING = NONE - 9999;

    private final Stock now;
    private final Stock kept;
    private boolean hasImage;
    private final Reader reader;
    private final Hours clock;
    private final World fancy;
    private final Hours dream;
    private final World[] past;
    private int pastNext;
    private int pastCount;
    private final Port port;
    private final Riddles riddles;

    public AliasHouse() {
        now = new Stock();
        kept = new Stock();
        reader = new Reader(now);
        clock = new Hours(now, now.world, false);
        fancy = new World();
        dream = new Hours(now, fancy, true);
        past = new World[UNDOS];
        for (int i = 0; i < UNDOS; i++) {
            past[i] = new World();
        }
        port = new Port(now);
        riddles = new Riddles(now);
    }

    public int state(int v) {
        int was = now.world.draws;
        now.world.draws = v;
        forget();
        return was;
    }

    public int person(int wits, int purse) {
        int number = now.world.addPerson(wits, purse);
        if (number != NONE) {
            forget();
        }
        return number;
    }

    public int alias(int person, int rank, int home) {
        int number = now.world.addAlias(person, rank, home);
        if (number != NONE) {
            forget();
        }
        return number;
    }

    public boolean set(int what, int who, int v) {
        boolean done = now.world.change(what, who, v);
        if (done) {
            forget();
        }
        return done;
    }

    public boolean act(int what, int who, int v) {
        World w = now.world;
        switch (what) {
            case 0:
                if (!w.isAlias(who) || w.struck[who] != 0 || !within(v, 0, STREETS - 1)) {
                    return false;
                }
                keepPast();
                w.walkOut(who, v);
                return true;
            case 1:
                if (!w.isAlias(who) || w.out[who] == 0) {
                    return false;
                }
                keepPast();
                w.lieDown(who);
                return true;
            case 2:
                return pay(who);
            default:
                return false;
        }
    }

    private boolean pay(int who) {
        World w = now.world;
        if (!w.isPerson(who)) {
            return false;
        }
        int much = Math.min(w.debt, w.purse[who]);
        if (much <= 0) {
            return false;
        }
        keepPast();
        w.debt -= much;
        w.purse[who] -= much;
        now.book.write(w, Book.PAID, who, much);
        return true;
    }

    public int hours(int n) {
        World w = now.world;
        if (!within(n, 1, MOST_HOURS) || w.day + (w.hour + n) / 24 > LAST_DAY) {
            return NONE;
        }
        int before = w.caught;
        for (int i = 0; i < n; i++) {
            keepPast();
            clock.pass();
        }
        return w.caught - before;
    }

    public int feed(int a, int b, int c, int d, int e) {
        if (!reader.hasRoom()) {
            return NONE;
        }
        reader.take(a);
        reader.take(b);
        reader.take(c);
        reader.take(d);
        reader.take(e);
        return reader.length;
    }

    public boolean end(int n) {
        if (!within(n, 0, reader.length)) {
            return false;
        }
        reader.length = n;
        return true;
    }

    public int text(int k) {
        int lines = reader.read(k);
        boolean hoursHangOnIt = k == Texts.SHARES || k == Texts.DIARY;
        if (lines != NONE && hoursHangOnIt) {
            forget();
        }
        return lines;
    }

    public int fault(int what) {
        switch (what) {
            case 0:
                return reader.fault;
            case 1:
                return reader.faultPlace;
            default:
                return NONE;
        }
    }

    public int of(int alias, int what) {
        World w = now.world;
        if (!w.isAlias(alias)) {
            return NONE;
        }
        switch (what) {
            case 0:
                return w.person[alias];
            case 1:
                return w.rank[alias];
            case 2:
                return w.home[alias];
            case 3:
                return w.in[alias];
            case 4:
                return w.out[alias];
            case 5:
                return w.seen[alias];
            case 6:
                return w.struck[alias];
            case 7:
                return now.texts.law.tells(w, alias, Law.SEEN);
            case 8:
                return now.texts.law.tells(w, alias, Law.COSTS);
            case 9:
                return now.texts.law.tells(w, alias, Law.GAINS);
            default:
                return NONE;
        }
    }

    public int who(int person, int what) {
        World w = now.world;
        if (!w.isPerson(person)) {
            return NONE;
        }
        switch (what) {
            case 0:
                return w.wits[person];
            case 1:
                return w.purse[person];
            case 2:
                return w.aliasesOf(person, false);
            case 3:
                return w.aliasesOf(person, true);
            default:
                return NONE;
        }
    }

    public int street(int street, int what) {
        if (!within(street, 0, STREETS - 1)) {
            return NONE;
        }
        switch (what) {
            case 0:
                return now.world.eyes[street];
            case 1:
                return now.world.outIn(street);
            case 2:
                return port.neighbours(street);
            default:
                return NONE;
        }
    }

    public int book(int i, int what) {
        return now.book.cell(now.world, i, what);
    }

    public int goes(int n, int what) {
        if (!within(n, 1, MOST_HOURS) || !within(what, 0, 3)) {
            return NONE;
        }
        fancy.become(now.world);
        for (int i = 0; i < n; i++) {
            dream.pass();
        }
        switch (what) {
            case 0:
                return fancy.purses();
            case 1:
                return fancy.debt;
            case 2:
                return fancy.caught;
            default:
                return fancy.cousins;
        }
    }

    public int keeps(int alias) {
        if (!now.world.isAlias(alias)) {
            return NONE;
        }
        fancy.become(now.world);
        for (int passed = 0; passed <= MOST_KEPT; passed++) {
            if (fancy.struck[alias] != 0) {
                return passed;
            }
            dream.pass();
        }
        return NONE;
    }

    public int sighted(int minute, int street) {
        if (minute == NONE) {
            return now.sightings.wipe();
        }
        if (!within(minute, 0, 99) || !within(street, 0, STREETS - 1)) {
            return NONE;
        }
        return now.sightings.put(minute, street, 0);
    }

    public int persons(int a, int b) {
        if (a == NONE) {
            return port.fewestPersons();
        }
        if (!within(a, 0, STREETS - 1) || !within(b, 0, STREETS - 1)) {
            return NONE;
        }
        return port.minutes(a, b);
    }

    public int pair(int a, int b, boolean one) {
        if (a == NONE) {
            return now.pairs.wipe();
        }
        if (!within(a, 0, Riddles.NAMES - 1) || !within(b, 0, Riddles.NAMES - 1) || a == b) {
            return NONE;
        }
        return now.pairs.put(a, b, one ? 1 : 0);
    }

    public int names(int what) {
        switch (what) {
            case 0:
                return riddles.groups();
            case 1:
                return riddles.groupsCanBe() ? 1 : 0;
            case 2:
                return riddles.fewestNamed();
            default:
                return NONE;
        }
    }

    public int says(int a, int b, boolean truly) {
        if (a == NONE) {
            return now.words.wipe();
        }
        if (!within(a, 0, Riddles.SPEAKERS - 1) || !within(b, 0, Riddles.SPEAKERS - 1)) {
            return NONE;
        }
        return now.words.put(a, b, truly ? 1 : 0);
    }

    public int speakers(int what) {
        return within(what, 0, 2) ? riddles.trueSpeakers(what) : NONE;
    }

    public int vote(int weight) {
        if (weight == NONE) {
            return now.votes.wipe();
        }
        return within(weight, 1, 30) ? now.votes.put(weight, 0, 0) : NONE;
    }

    public int swings(int i, int q) {
        if (!within(q, 1, 180)) {
            return NONE;
        }
        if (i == NONE) {
            return riddles.neverSwing(q);
        }
        return within(i, 0, now.votes.size - 1) ? riddles.swingsOf(i, q) : NONE;
    }

    public int least(int what) {
        switch (what) {
            case 0:
                return now.texts.busiest(false);
            case 1:
                return now.texts.busiest(true);
            case 2:
                return Integer.bitCount(port.watched());
            case 3:
                return port.watched();
            default:
                return NONE;
        }
    }

    public int birthdays(int n, int d, int what) {
        if (!within(n, 1, 8) || !within(d, 1, 20) || !within(what, 0, 1)) {
            return NONE;
        }
        return riddles.together(n, d, what);
    }

    public int letter(int note, int letter) {
        if (!within(note, 0, 1)) {
            return NONE;
        }
        Table letters = note == 0 ? now.asItIs : now.asWritten;
        if (letter == NONE) {
            return letters.wipe();
        }
        return within(letter, 0, Riddles.LETTERS - 1) ? letters.put(letter, 0, 0) : NONE;
    }

    public int notes(int what) {
        switch (what) {
            case 0:
                return riddles.shift();
            case 1:
                return riddles.mirrored() ? 1 : 0;
            default:
                return NONE;
        }
    }

    public int boot(int size) {
        if (size == NONE) {
            return now.boots.wipe();
        }
        return within(size, 30, 50) ? now.boots.put(size, 0, 0) : NONE;
    }

    public int bed(int shortest, int longest) {
        if (shortest == NONE) {
            return now.beds.wipe();
        }
        if (!within(shortest, 30, 50) || !within(longest, shortest, 50)) {
            return NONE;
        }
        return now.beds.put(shortest, longest, 0);
    }

    public int beds(int what) {
        if (what == 0) {
            return riddles.bootsAbed();
        }
        boolean asksBoot = what >= 10 && what - 10 < now.boots.size;
        return asksBoot ? riddles.bedOf(what - 10) : NONE;
    }

    public int box(int letter) {
        if (letter == NONE) {
            return now.letters.wipe();
        }
        return within(letter, 0, Riddles.LETTERS - 1) ? now.letters.put(letter, 0, 0) : NONE;
    }

    public int named(int k) {
        return within(k, 0, Riddles.LONGEST_ROW) ? riddles.rows(k) : NONE;
    }

    public int net(int w, int what) {
        if (!within(w, 1, STREETS) || !within(what, 0, 1)) {
            return NONE;
        }
        return port.bestCatch(w, what == 1);
    }

    public int hoop(int n, int k, int what) {
        if (!within(n, 1, 60) || !within(k, 1, 60)) {
            return NONE;
        }
        switch (what) {
            case 0:
                return n / (int) Riddles.commonDivisor(n, k);
            case 1:
                return Math.floorMod(-k, n);
            default:
                return NONE;
        }
    }

    public int loan(int of, int to, int v) {
        if (of == NONE) {
            return now.loans.wipe();
        }
        boolean can = within(of, 0, 5) && within(to, 0, 5) && of != to && within(v, 1, 99);
        return can ? now.loans.put(of, to, v) : NONE;
    }

    public int settled(int who) {
        if (who == NONE) {
            return riddles.fewestGifts();
        }
        return within(who, 0, Riddles.LENDERS - 1) ? riddles.toGet(who) : NO_SETTLING;
    }

    public int game(int a, int b, int what) {
        boolean can = within(a, 0, Riddles.PILE) && within(b, 0, Riddles.PILE) && within(what, 0, 1);
        return can ? riddles.goodTake(a, b, what == 1) : NONE;
    }

    public boolean undo() {
        if (pastCount == 0) {
            return false;
        }
        pastNext = (pastNext + UNDOS - 1) % UNDOS;
        pastCount--;
        now.world.become(past[pastNext]);
        return true;
    }

    public boolean image(boolean taken) {
        if (taken) {
            kept.become(now);
            hasImage = true;
            return true;
        }
        if (!hasImage) {
            return false;
        }
        now.become(kept);
        forget();
        return true;
    }

    public int look(int what) {
        World w = now.world;
        switch (what) {
            case 0:
                return w.persons;
            case 1:
                return w.aliases;
            case 2:
                return w.debt;
            case 3:
                return w.cousins;
            case 4:
                return w.caught;
            case 5:
                return w.hour;
            case 6:
                return w.day;
            case 7:
                return w.struckOnes();
            case 8:
                return w.lines;
            case 9:
                return w.draws;
            case 10:
                return now.texts.law.lines.size;
            case 11:
                return now.texts.shares.size;
            case 12:
                return now.texts.diary.size;
            case 13:
                return now.texts.ways.size;
            case 14:
                return pastCount;
            default:
                return NONE;
        }
    }

    private void keepPast() {
        past[pastNext].become(now.world);
        pastNext = (pastNext + 1) % UNDOS;
        pastCount = Math.min(UNDOS, pastCount + 1);
    }

    private void forget() {
        pastCount = 0;
    }

    private static boolean within(int v, int least, int most) {
        return v >= least && v <= most;
    }

    /** Lines of up to five numbers, as many as there is room for. */
    private static final class Table {
        static final int WIDTH = 5;

        private final int width;
        private final int room;
        private final int[] cells;
        int size;

        Table(int room, int width) {
            this.room = room;
            this.width = width;
            cells = new int[room * width];
        }

        boolean isFull() {
            return size >= room;
        }

        /** How many lines there are then; NONE if there is no room. */
        int put(int a, int b, int c) {
            return putWide(a, b, c, 0, 0);
        }

        int putWide(int a, int b, int c, int d, int e) {
            if (isFull()) {
                return NONE;
            }
            cell(0, a);
            cell(1, b);
            cell(2, c);
            cell(3, d);
            cell(4, e);
            size++;
            return size;
        }

        private void cell(int column, int v) {
            if (column < width) {
                cells[size * width + column] = v;
            }
        }

        int at(int line, int column) {
            boolean isThere = line >= 0 && line < size && column >= 0 && column < width;
            return isThere ? cells[line * width + column] : NONE;
        }

        int wipe() {
            size = 0;
            return size;
        }

        void become(Table other) {
            if (other.cells.length != cells.length) {
                return;
            }
            size = other.size;
            System.arraycopy(other.cells, 0, cells, 0, size * width);
        }
    }

    /** All that hours and deeds by hand change, so that undoing is to become an earlier one. */
    private static final class World {
        int draws;
        int debt;
        int cousins;
        int caught;
        int hour;
        int day;
        int lines;
        int persons;
        int aliases;
        final int[] eyes = new int[STREETS];
        final int[] wits = new int[PERSONS];
        final int[] purse = new int[PERSONS];
        final int[] person = new int[ALIASES];
        final int[] rank = new int[ALIASES];
        final int[] home = new int[ALIASES];
        final int[] in = new int[ALIASES];
        final int[] out = new int[ALIASES];
        final int[] seen = new int[ALIASES];
        final int[] struck = new int[ALIASES];

        void become(World other) {
            draws = other.draws;
            debt = other.debt;
            cousins = other.cousins;
            caught = other.caught;
            hour = other.hour;
            day = other.day;
            lines = other.lines;
            persons = other.persons;
            aliases = other.aliases;
            System.arraycopy(other.eyes, 0, eyes, 0, STREETS);
            System.arraycopy(other.wits, 0, wits, 0, PERSONS);
            System.arraycopy(other.purse, 0, purse, 0, PERSONS);
            System.arraycopy(other.person, 0, person, 0, ALIASES);
            System.arraycopy(other.rank, 0, rank, 0, ALIASES);
            System.arraycopy(other.home, 0, home, 0, ALIASES);
            System.arraycopy(other.in, 0, in, 0, ALIASES);
            System.arraycopy(other.out, 0, out, 0, ALIASES);
            System.arraycopy(other.seen, 0, seen, 0, ALIASES);
            System.arraycopy(other.struck, 0, struck, 0, ALIASES);
        }

        boolean isPerson(int p) {
            return p >= 0 && p < persons;
        }

        boolean isAlias(int a) {
            return a >= 0 && a < aliases;
        }

        int addPerson(int itsWits, int itsPurse) {
            if (persons >= PERSONS || !within(itsWits, 0, 9) || !within(itsPurse, 0, MOST_PURSE)) {
                return NONE;
            }
            wits[persons] = itsWits;
            purse[persons] = itsPurse;
            persons++;
            return persons - 1;
        }

        int addAlias(int itsPerson, int itsRank, int itsHome) {
            boolean can = isPerson(itsPerson) && within(itsRank, 0, 9) && within(itsHome, 0, STREETS - 1);
            if (aliases >= ALIASES || !can) {
                return NONE;
            }
            int a = aliases;
            person[a] = itsPerson;
            rank[a] = itsRank;
            home[a] = itsHome;
            in[a] = itsHome;
            out[a] = 0;
            seen[a] = 0;
            struck[a] = 0;
            aliases++;
            return a;
        }

        boolean change(int what, int who, int v) {
            switch (what) {
                case 0:
                    return change(eyes, STREETS, 9, who, v);
                case 1:
                    return change(wits, persons, 9, who, v);
                case 2:
                    return change(purse, persons, MOST_PURSE, who, v);
                case 3:
                    return change(rank, aliases, 9, who, v);
                case 4:
                    return change(seen, aliases, MOST_SEEN, who, v);
                default:
                    return false;
            }
        }

        private static boolean change(int[] row, int count, int most, int who, int v) {
            if (!within(who, 0, count - 1) || !within(v, 0, most) || who >= row.length) {
                return false;
            }
            row[who] = v;
            return true;
        }

        int draw(int m) {
            draws = draws * 1664525 + 1013904223;
            return m > 0 ? (draws >>> 8) % m : 0;
        }

        void walkOut(int a, int s) {
            out[a] = 1;
            in[a] = s;
        }

        void lieDown(int a) {
            out[a] = 0;
            in[a] = home[a];
        }

        void give(int p, int much) {
            purse[p] = Math.min(MOST_PURSE, purse[p] + much);
        }

        /** What the purse has not becomes debt. */
        void charge(int p, int much) {
            int paid = Math.min(purse[p], much);
            purse[p] -= paid;
            debt += much - paid;
        }

        int purses() {
            int sum = 0;
            for (int p = 0; p < persons; p++) {
                sum += purse[p];
            }
            return sum;
        }

        int aliasesOf(int p, boolean outAlone) {
            int found = 0;
            for (int a = 0; a < aliases; a++) {
                if (person[a] == p && (!outAlone || out[a] != 0)) {
                    found |= 1 << a;
                }
            }
            return found;
        }

        int outIn(int s) {
            int found = 0;
            for (int a = 0; a < aliases; a++) {
                if (out[a] != 0 && in[a] == s) {
                    found |= 1 << a;
                }
            }
            return found;
        }

        int struckOnes() {
            int found = 0;
            for (int a = 0; a < aliases; a++) {
                if (struck[a] != 0) {
                    found |= 1 << a;
                }
            }
            return found;
        }

        int othersBeside(int a) {
            return Integer.bitCount(outIn(in[a]) & ~(1 << a));
        }

        boolean meetsItsOwn(int a) {
            return (outIn(in[a]) & aliasesOf(person[a], true) & ~(1 << a)) != 0;
        }
    }

    /** Lines are only ever added, so a world keeps how many of them are its own and undoing needs no copy of them. */
    private static final class Book {
        static final int MET = 0;
        static final int MET_WITH_ANOTHER = 1;
        static final int COUSIN = 2;
        static final int STRUCK_OFF = 3;
        static final int PAID = 4;
        private static final int ROOM = 150;
        private static final int WIDTH = 5;

        private final int[] cells = new int[ROOM * WIDTH];

        void write(World w, int what, int who, int much) {
            if (w.lines < 0 || w.lines >= ROOM) {
                return;
            }
            int from = w.lines * WIDTH;
            cells[from] = w.day;
            cells[from + 1] = w.hour;
            cells[from + 2] = what;
            cells[from + 3] = who;
            cells[from + 4] = much;
            w.lines++;
        }

        int cell(World w, int line, int what) {
            boolean isThere = line >= 0 && line < w.lines && line < ROOM && what >= 0 && what < WIDTH;
            return isThere ? cells[line * WIDTH + what] : NONE;
        }

        void become(Book other) {
            System.arraycopy(other.cells, 0, cells, 0, cells.length);
        }
    }

    /** THE LAW, its sums and conditions written one behind the other for a stack: numbers as they are, the rest below 0. */
    private static final class Law {
        /** The words of lines have the numbers of their keywords. */
        static final int SEEN = 0;
        static final int COSTS = 1;
        static final int GAINS = 2;
        static final int PLUS = -1;
        static final int MINUS = -2;
        static final int TIMES = -3;
        static final int PARTED = -4;
        static final int BELOW = -5;
        static final int EVEN = -6;
        static final int ABOVE = -7;
        static final int NOT = -8;
        static final int AND = -9;
        static final int OR = -10;
        /** Less the number of a keyword: what that word tells. */
        static final int WORD = -20;
        private static final int STACK = 40;

        /** Of each line: its word, where its sum begins and ends, where its condition ends. */
        final Table lines = new Table(Texts.LINES, 4);
        int length;
        private final int[] code = new int[Reader.ROOM];
        private final int[] stack = new int[STACK];

        void clear() {
            lines.wipe();
            length = 0;
        }

        void add(int step) {
            if (length < code.length) {
                code[length] = step;
                length++;
            }
        }

        void become(Law other) {
            lines.become(other.lines);
            length = other.length;
            System.arraycopy(other.code, 0, code, 0, code.length);
        }

        int tells(World w, int a, int word) {
            int told = untold(w, a, word);
            for (int i = 0; i < lines.size; i++) {
                int middle = lines.at(i, 2);
                int to = lines.at(i, 3);
                boolean holds = lines.at(i, 0) == word && (middle == to || worth(w, a, middle, to) != 0);
                if (holds) {
                    told = worth(w, a, lines.at(i, 1), middle);
                    break;
                }
            }
            return Math.max(0, Math.min(word == SEEN ? 1000 : 99, told));
        }

        /** What a law that says nothing of that word tells. */
        private static int untold(World w, int a, int word) {
            if (word == SEEN) {
                return 100 * w.eyes[w.in[a]] - 50 * w.wits[w.person[a]];
            }
            return word == COSTS ? 1 + w.rank[a] : 2 * w.rank[a];
        }

        private int worth(World w, int a, int from, int to) {
            int top = 0;
            for (int i = from; i >= 0 && i < to && i < code.length; i++) {
                int step = code[i];
                if (step >= 0 || step <= WORD) {
                    if (top >= STACK) {
                        return 0;
                    }
                    stack[top] = step >= 0 ? step : wordWorth(w, a, WORD - step);
                    top++;
                } else if (step == NOT) {
                    if (top < 1) {
                        return 0;
                    }
                    stack[top - 1] = 1 - stack[top - 1];
                } else {
                    if (top < 2) {
                        return 0;
                    }
                    top--;
                    stack[top - 1] = joined(step, stack[top - 1], stack[top]);
                }
            }
            return top > 0 ? stack[top - 1] : 0;
        }

        private static int joined(int step, int a, int b) {
            switch (step) {
                case PLUS:
                    return a + b;
                case MINUS:
                    return a - b;
                case TIMES:
                    return a * b;
                case PARTED:
                    return b == 0 ? 0 : a / b;
                case BELOW:
                    return a < b ? 1 : 0;
                case EVEN:
                    return a == b ? 1 : 0;
                case ABOVE:
                    return a > b ? 1 : 0;
                case AND:
                    return a & b;
                default:
                    return a | b;
            }
        }

        private static int wordWorth(World w, int a, int word) {
            switch (word) {
                case Reader.RANK:
                    return w.rank[a];
                case Reader.WITS:
                    return w.wits[w.person[a]];
                case Reader.EYES:
                    return w.eyes[w.in[a]];
                case Reader.KNOWN:
                    return w.seen[a];
                case Reader.PURSE:
                    return w.purse[w.person[a]];
                case Reader.HOUR:
                    return w.hour;
                case Reader.STREET:
                    return w.in[a];
                case Reader.OTHERS:
                    return w.othersBeside(a);
                default:
                    return w.day;
            }
        }
    }

    /** The four texts. */
    private static final class Texts {
        static final int LAW = 0;
        static final int SHARES = 1;
        static final int DIARY = 2;
        static final int WAYS = 3;
        static final int LINES = 16;

        final Law law = new Law();
        /** Of each line: the alias, the first hour, the last hour, the street. */
        final Table shares = new Table(LINES, 4);
        /** Of each line: the day, the hour, the keyword, its first number, its second number. */
        final Table diary = new Table(LINES, 5);
        /** Of each line: two streets beside one another. */
        final Table ways = new Table(LINES, 2);

        void become(Texts other) {
            for (int k = LAW; k <= WAYS; k++) {
                take(k, other);
            }
        }

        /** How many lines text k, taken over from other, has. */
        int take(int k, Texts other) {
            if (k == LAW) {
                law.become(other.law);
                return law.lines.size;
            }
            table(k).become(other.table(k));
            return table(k).size;
        }

        void clear(int k) {
            if (k == LAW) {
                law.clear();
            } else {
                table(k).wipe();
            }
        }

        private Table table(int k) {
            if (k == SHARES) {
                return shares;
            }
            return k == DIARY ? diary : ways;
        }

        /** The most lines of SHARES in one hour, or the first hour that has them. */
        int busiest(boolean hourAsked) {
            int most = 0;
            int first = 0;
            for (int hour = 0; hour < 24; hour++) {
                int count = 0;
                for (int i = 0; i < shares.size; i++) {
                    count += holds(i, hour) ? 1 : 0;
                }
                if (count > most) {
                    most = count;
                    first = hour;
                }
            }
            return hourAsked ? first : most;
        }

        boolean holds(int share, int hour) {
            return hour >= shares.at(share, 1) && hour <= shares.at(share, 2);
        }
    }

    /** All that an image holds: the world, the book, the texts, and what was told for thought. */
    private static final class Stock {
        final World world = new World();
        final Book book = new Book();
        final Texts texts = new Texts();
        final Table sightings = new Table(10, 2);
        final Table pairs = new Table(12, 3);
        final Table words = new Table(10, 3);
        final Table votes = new Table(6, 1);
        final Table asItIs = new Table(12, 1);
        final Table asWritten = new Table(12, 1);
        final Table boots = new Table(8, 1);
        final Table beds = new Table(8, 2);
        final Table letters = new Table(10, 1);
        final Table loans = new Table(8, 3);

        void become(Stock other) {
            world.become(other.world);
            book.become(other.book);
            texts.become(other.texts);
            sightings.become(other.sightings);
            pairs.become(other.pairs);
            words.become(other.words);
            votes.become(other.votes);
            asItIs.become(other.asItIs);
            asWritten.become(other.asWritten);
            boots.become(other.boots);
            beds.become(other.beds);
            letters.become(other.letters);
            loans.become(other.loans);
        }
    }

    /** Lets hours pass over a world: the real one, or one that is only thought of. */
    private static final class Hours {
        private static final int THOUGHT_SEEN = 500;
        private static final int STRIKING = 50;

        private final Stock stock;
        private final World world;
        private final boolean thought;

        Hours(Stock stock, World world, boolean thought) {
            this.stock = stock;
            this.world = world;
            this.thought = thought;
        }

        void pass() {
            keepDiary();
            share();
            for (int p = 0; p < world.persons; p++) {
                sendCousins(p);
            }
            beSeen();
            earn();
            strikeOff();
            turn();
        }

        private void note(int what, int who, int much) {
            if (!thought) {
                stock.book.write(world, what, who, much);
            }
        }

        private void keepDiary() {
            Table diary = stock.texts.diary;
            for (int i = 0; i < diary.size; i++) {
                if (diary.at(i, 0) == world.day && diary.at(i, 1) == world.hour) {
                    keepLine(diary.at(i, 2), diary.at(i, 3), diary.at(i, 4));
                }
            }
        }

        private void keepLine(int keyword, int who, int v) {
            if (keyword == Reader.WALK && world.isAlias(who) && world.struck[who] == 0) {
                world.walkOut(who, v);
            } else if (keyword == Reader.GIVE && world.isPerson(who)) {
                world.give(who, v);
            } else if (keyword == Reader.EYES && within(who, 0, STREETS - 1)) {
                world.eyes[who] = v;
            } else if (keyword == Reader.LIE && world.isAlias(who)) {
                world.lieDown(who);
            }
        }

        private void share() {
            for (int a = 0; a < world.aliases; a++) {
                if (world.struck[a] == 0) {
                    shareOut(a);
                }
            }
        }

        private void shareOut(int a) {
            Table shares = stock.texts.shares;
            boolean hasLines = false;
            for (int i = 0; i < shares.size; i++) {
                if (shares.at(i, 0) == a) {
                    hasLines = true;
                    if (stock.texts.holds(i, world.hour)) {
                        world.walkOut(a, shares.at(i, 3));
                        return;
                    }
                }
            }
            if (hasLines) {
                world.lieDown(a);
            }
        }

        private void sendCousins(int p) {
            int himself = goesHimself(p);
            for (int a = 0; a < world.aliases; a++) {
                if (world.person[a] == p && world.out[a] != 0 && a != himself) {
                    world.cousins++;
                    world.charge(p, 1);
                    note(Book.COUSIN, a, world.in[a]);
                }
            }
        }

        private int goesHimself(int p) {
            int best = NONE;
            for (int a = 0; a < world.aliases; a++) {
                boolean isOut = world.person[a] == p && world.out[a] != 0;
                if (isOut && (best == NONE || world.rank[a] > world.rank[best])) {
                    best = a;
                }
            }
            return best;
        }

        private void beSeen() {
            for (int a = 0; a < world.aliases; a++) {
                if (world.out[a] != 0 && isSeen(stock.texts.law.tells(world, a, Law.SEEN))) {
                    boolean withAnother = world.meetsItsOwn(a);
                    world.seen[a] = Math.min(MOST_SEEN, world.seen[a] + (withAnother ? 30 : 10));
                    note(withAnother ? Book.MET_WITH_ANOTHER : Book.MET, a, world.seen[a]);
                }
            }
        }

        private boolean isSeen(int chance) {
            if (thought) {
                return chance >= THOUGHT_SEEN;
            }
            return chance > 0 && world.draw(1000) < chance;
        }

        private void earn() {
            Law law = stock.texts.law;
            for (int a = 0; a < world.aliases; a++) {
                if (world.out[a] != 0) {
                    int p = world.person[a];
                    world.give(p, law.tells(world, a, Law.GAINS));
                    world.charge(p, law.tells(world, a, Law.COSTS));
                }
            }
        }

        private void strikeOff() {
            for (int a = 0; a < world.aliases; a++) {
                if (world.struck[a] == 0 && world.seen[a] > STRIKING) {
                    world.struck[a] = 1;
                    world.lieDown(a);
                    world.caught++;
                    note(Book.STRUCK_OFF, a, world.seen[a]);
                }
            }
        }

        private void turn() {
            world.hour++;
            if (world.hour < 24) {
                return;
            }
            world.hour = 0;
            world.day++;
            for (int a = 0; a < world.aliases; a++) {
                world.seen[a] = Math.max(0, world.seen[a] - 2);
            }
        }
    }

    /** The tape, and how a text is read from it: into texts of its own first, so that a fault leaves the old one. */
    private static final class Reader {
        static final int ROOM = 400;
        /** In the order of the constants below. */
        private static final String KEYWORDS =
                "seen costs gains when or and not rank wits eyes known purse hour street others day alias from to in on at walk give lie by";
        static final int WHEN = 3;
        static final int OR = 4;
        static final int AND = 5;
        static final int NOT = 6;
        static final int RANK = 7;
        static final int WITS = 8;
        static final int EYES = 9;
        static final int KNOWN = 10;
        static final int PURSE = 11;
        static final int HOUR = 12;
        static final int STREET = 13;
        static final int OTHERS = 14;
        static final int DAY = 15;
        static final int ALIAS = 16;
        static final int FROM = 17;
        static final int TO = 18;
        static final int IN = 19;
        static final int ON = 20;
        static final int AT = 21;
        static final int WALK = 22;
        static final int GIVE = 23;
        static final int LIE = 24;
        static final int BY = 25;
        private static final int END = 0;
        private static final int NO_TOKEN = 1;
        private static final int KEYWORD = 2;
        private static final int NUMBER = 3;
        private static final int SIGN = 4;
        private static final int CANNOT_STAND = 1;
        private static final int OUT_OF_BOUNDS = 2;
        private static final int TOO_MANY = 3;
        private static final int MOST_OPEN = 8;
        private static final int MOST_DIGITS = 4;

        int length;
        int fault;
        int faultPlace = NONE;
        private final Stock stock;
        private final Texts draft = new Texts();
        private final int[] tape = new int[ROOM];
        private final int[] kinds = new int[ROOM + 1];
        private final int[] values = new int[ROOM + 1];
        private final int[] places = new int[ROOM + 1];
        private int tokens;
        private int at;
        private int number;

        Reader(Stock stock) {
            this.stock = stock;
        }

        boolean hasRoom() {
            return length + 20 <= ROOM;
        }

        void take(int four) {
            for (int shift = 24; shift >= 0 && length < ROOM; shift -= 8) {
                tape[length] = four >>> shift & 255;
                length++;
            }
        }

        /** How many lines the tape has as text k; NONE if it can't be one. */
        int read(int k) {
            fault = 0;
            faultPlace = NONE;
            int size = length;
            length = 0;
            if (!within(k, Texts.LAW, Texts.WAYS)) {
                return NONE;
            }
            cutIntoTokens(size);
            draft.clear(k);
            // one turn more than there may be lines: a line too many is a fault in that turn
            for (int i = 0; i <= Texts.LINES && kinds[at] != END; i++) {
                boolean fine;
                if (k == Texts.LAW) {
                    fine = lawLine();
                } else if (k == Texts.SHARES) {
                    fine = shareLine();
                } else {
                    fine = k == Texts.DIARY ? diaryLine() : wayLine();
                }
                if (!fine) {
                    return NONE;
                }
            }
            return stock.texts.take(k, draft);
        }

        private void cutIntoTokens(int size) {
            tokens = 0;
            at = 0;
            int i = 0;
            while (i < size) {
                int c = tape[i];
                int end = i + 1;
                if (isLetter(c)) {
                    while (end < size && isLetter(tape[end])) {
                        end++;
                    }
                    int word = keyword(i, end);
                    addToken(word == NONE ? NO_TOKEN : KEYWORD, word, i);
                } else if (isDigit(c)) {
                    while (end < size && isDigit(tape[end])) {
                        end++;
                    }
                    addToken(end - i > MOST_DIGITS ? NO_TOKEN : NUMBER, numberAt(i, end), i);
                } else if (c != ' ' && c != '\n') {
                    addToken(SIGN, c, i);
                }
                i = end;
            }
            addToken(END, 0, size);
        }

        private void addToken(int kind, int value, int place) {
            if (tokens <= ROOM) {
                kinds[tokens] = kind;
                values[tokens] = value;
                places[tokens] = place;
                tokens++;
            }
        }

        private static boolean isLetter(int c) {
            return c >= 'a' && c <= 'z' || c >= 'A' && c <= 'Z';
        }

        private static boolean isDigit(int c) {
            return c >= '0' && c <= '9';
        }

        private int numberAt(int from, int to) {
            int v = 0;
            for (int i = from; i < to && i < from + MOST_DIGITS; i++) {
                v = 10 * v + tape[i] - '0';
            }
            return v;
        }

        private int keyword(int from, int to) {
            int start = 0;
            int which = 0;
            for (int i = 0; i <= KEYWORDS.length(); i++) {
                if (i == KEYWORDS.length() || KEYWORDS.charAt(i) == ' ') {
                    if (i - start == to - from && matches(start, from, to)) {
                        return which;
                    }
                    which++;
                    start = i + 1;
                }
            }
            return NONE;
        }

        private boolean matches(int start, int from, int to) {
            for (int i = from; i < to; i++) {
                if (KEYWORDS.charAt(start + i - from) != tape[i]) {
                    return false;
                }
            }
            return true;
        }

        private boolean fail(int which) {
            fault = which;
            faultPlace = places[at];
            return false;
        }

        private boolean isSign(int c) {
            return kinds[at] == SIGN && values[at] == c;
        }

        private boolean isKeyword(int word) {
            return kinds[at] == KEYWORD && values[at] == word;
        }

        /** The end is never stepped over, so that there is always a token to look at. */
        private void step() {
            if (at < tokens - 1) {
                at++;
            }
        }

        private boolean stepSign(int c) {
            if (!isSign(c)) {
                return fail(CANNOT_STAND);
            }
            step();
            return true;
        }

        private boolean stepKeyword(int word) {
            if (!isKeyword(word)) {
                return fail(CANNOT_STAND);
            }
            step();
            return true;
        }

        private boolean opensLine(int word, Table lines) {
            if (!isKeyword(word)) {
                return fail(CANNOT_STAND);
            }
            if (lines.isFull()) {
                return fail(TOO_MANY);
            }
            step();
            return true;
        }

        private boolean stepNumber(int least, int most) {
            if (kinds[at] != NUMBER) {
                return fail(CANNOT_STAND);
            }
            number = values[at];
            if (!within(number, least, most)) {
                return fail(OUT_OF_BOUNDS);
            }
            step();
            return true;
        }

        private boolean shareLine() {
            if (!opensLine(ALIAS, draft.shares) || !stepNumber(0, stock.world.aliases - 1)) {
                return false;
            }
            int who = number;
            if (!stepKeyword(FROM) || !stepNumber(0, 23)) {
                return false;
            }
            int first = number;
            if (!stepKeyword(TO) || !stepNumber(first, 23)) {
                return false;
            }
            int last = number;
            if (!stepKeyword(IN) || !stepNumber(0, STREETS - 1)) {
                return false;
            }
            int where = number;
            if (!stepSign(';')) {
                return false;
            }
            draft.shares.putWide(who, first, last, where, 0);
            return true;
        }

        private boolean diaryLine() {
            if (!opensLine(ON, draft.diary) || !stepNumber(0, 999)) {
                return false;
            }
            int day = number;
            if (!stepKeyword(AT) || !stepNumber(0, 23)) {
                return false;
            }
            int hour = number;
            int deed = kinds[at] == KEYWORD ? values[at] : NONE;
            if (deed != WALK && deed != GIVE && deed != EYES && deed != LIE) {
                return fail(CANNOT_STAND);
            }
            step();
            if (!stepNumber(0, countOf(deed) - 1)) {
                return false;
            }
            int whose = number;
            number = 0;
            if (deed != LIE && !stepNumber(deed == GIVE ? 1 : 0, deed == GIVE ? 999 : 9)) {
                return false;
            }
            int much = number;
            if (!stepSign(';')) {
                return false;
            }
            draft.diary.putWide(day, hour, deed, whose, much);
            return true;
        }

        private int countOf(int deed) {
            if (deed == GIVE) {
                return stock.world.persons;
            }
            return deed == EYES ? STREETS : stock.world.aliases;
        }

        private boolean wayLine() {
            if (!opensLine(STREET, draft.ways) || !stepNumber(0, STREETS - 1)) {
                return false;
            }
            int one = number;
            if (!stepKeyword(BY)) {
                return false;
            }
            if (kinds[at] == NUMBER && values[at] == one) {
                return fail(OUT_OF_BOUNDS);
            }
            if (!stepNumber(0, STREETS - 1)) {
                return false;
            }
            int other = number;
            if (!stepSign(';')) {
                return false;
            }
            draft.ways.put(one, other, 0);
            return true;
        }

        private boolean lawLine() {
            int word = kinds[at] == KEYWORD ? values[at] : NONE;
            if (!within(word, Law.SEEN, Law.GAINS)) {
                return fail(CANNOT_STAND);
            }
            if (!opensLine(word, draft.law.lines)) {
                return false;
            }
            int from = draft.law.length;
            if (!sum()) {
                return false;
            }
            int middle = draft.law.length;
            if (isKeyword(WHEN)) {
                step();
                if (!condition(0)) {
                    return false;
                }
            }
            if (!stepSign(';')) {
                return false;
            }
            draft.law.lines.putWide(word, from, middle, draft.law.length, 0);
            return true;
        }

        /** B: an "or" waits until its right side is whole, for "and" binds first. */
        private boolean condition(int open) {
            if (!single(open)) {
                return false;
            }
            boolean waiting = false;
            for (int i = 0; i < ROOM && (isKeyword(AND) || isKeyword(OR)); i++) {
                boolean and = isKeyword(AND);
                if (!and && waiting) {
                    draft.law.add(Law.OR);
                }
                waiting = waiting || !and;
                step();
                if (!single(open)) {
                    return false;
                }
                if (and) {
                    draft.law.add(Law.AND);
                }
            }
            if (waiting) {
                draft.law.add(Law.OR);
            }
            return true;
        }

        /** C, with so many ( and not open about it. */
        private boolean single(int open) {
            if (isKeyword(NOT)) {
                return denied(open);
            }
            if (isSign('(')) {
                return enclosed(open);
            }
            if (!sum()) {
                return false;
            }
            int compared = comparison();
            if (compared == 0) {
                return fail(CANNOT_STAND);
            }
            step();
            if (!sum()) {
                return false;
            }
            draft.law.add(compared);
            return true;
        }

        private boolean denied(int open) {
            if (!opens(open) || !single(open + 1)) {
                return false;
            }
            draft.law.add(Law.NOT);
            return true;
        }

        private boolean enclosed(int open) {
            return opens(open) && condition(open + 1) && stepSign(')');
        }

        private boolean opens(int open) {
            if (open >= MOST_OPEN) {
                return fail(TOO_MANY);
            }
            step();
            return true;
        }

        private int comparison() {
            if (isSign('<')) {
                return Law.BELOW;
            }
            if (isSign('=')) {
                return Law.EVEN;
            }
            return isSign('>') ? Law.ABOVE : 0;
        }

        /** E: a + or - waits until its right side is whole, for * and / bind first. */
        private boolean sum() {
            if (!unit()) {
                return false;
            }
            int waiting = 0;
            for (int i = 0; i < ROOM && isReckoning(); i++) {
                int sign = values[at];
                if ((sign == '+' || sign == '-') && waiting != 0) {
                    draft.law.add(waiting);
                }
                if (sign == '+' || sign == '-') {
                    waiting = sign == '+' ? Law.PLUS : Law.MINUS;
                }
                step();
                if (!(sign == '/' ? part() : unit())) {
                    return false;
                }
                if (sign == '*' || sign == '/') {
                    draft.law.add(sign == '*' ? Law.TIMES : Law.PARTED);
                }
            }
            if (waiting != 0) {
                draft.law.add(waiting);
            }
            return true;
        }

        private boolean isReckoning() {
            return isSign('+') || isSign('-') || isSign('*') || isSign('/');
        }

        private boolean part() {
            if (kinds[at] != NUMBER) {
                return fail(CANNOT_STAND);
            }
            if (values[at] == 0) {
                return fail(OUT_OF_BOUNDS);
            }
            draft.law.add(values[at]);
            step();
            return true;
        }

        private boolean unit() {
            if (kinds[at] == NUMBER) {
                draft.law.add(values[at]);
            } else if (kinds[at] == KEYWORD && within(values[at], RANK, DAY)) {
                draft.law.add(Law.WORD - values[at]);
            } else {
                return fail(CANNOT_STAND);
            }
            step();
            return true;
        }
    }

    /** What can be found out in thought of the streets and who is in them. */
    private static final class Port {
        private static final int ALL_STREETS = (1 << STREETS) - 1;
        private static final int STEP = 5;

        private final Stock stock;
        private final int[] beside = new int[STREETS];
        private final Matching followers = new Matching();

        Port(Stock stock) {
            this.stock = stock;
        }

        int neighbours(int s) {
            drawMap();
            return beside[s];
        }

        private void drawMap() {
            Arrays.fill(beside, 0);
            Table ways = stock.texts.ways;
            for (int i = 0; i < ways.size; i++) {
                int one = ways.at(i, 0);
                int other = ways.at(i, 1);
                if (within(one, 0, STREETS - 1) && within(other, 0, STREETS - 1)) {
                    beside[one] |= 1 << other;
                    beside[other] |= 1 << one;
                }
            }
        }

        int minutes(int from, int to) {
            drawMap();
            return minutesOnMap(from, to);
        }

        private int minutesOnMap(int from, int to) {
            int reached = 1 << from;
            for (int steps = 0; steps < STREETS; steps++) {
                if ((reached >> to & 1) != 0) {
                    return steps * STEP;
                }
                reached |= besideAny(reached);
            }
            return NONE;
        }

        private int besideAny(int streets) {
            int found = 0;
            for (int s = 0; s < STREETS; s++) {
                if ((streets >> s & 1) != 0) {
                    found |= beside[s];
                }
            }
            return found;
        }

        /** Who is seen later by the same one is his follower: each pair of followers saves a person. */
        int fewestPersons() {
            drawMap();
            int n = stock.sightings.size;
            for (int i = 0; i < n; i++) {
                int after = 0;
                for (int j = 0; j < n; j++) {
                    after |= canFollow(i, j) ? 1 << j : 0;
                }
                followers.allow(i, after);
            }
            return n - followers.most(0, n, 0);
        }

        private boolean canFollow(int i, int j) {
            Table sightings = stock.sightings;
            int time = sightings.at(j, 0) - sightings.at(i, 0);
            if (time < 0 || time == 0 && j <= i) {
                return false;
            }
            int way = minutesOnMap(sightings.at(i, 1), sightings.at(j, 1));
            return way != NONE && way <= time;
        }

        int watched() {
            drawMap();
            int best = ALL_STREETS;
            for (int set = 0; set <= ALL_STREETS; set++) {
                if (Integer.bitCount(set) < Integer.bitCount(best) && (set | besideAny(set)) == ALL_STREETS) {
                    best = set;
                }
            }
            return best;
        }

        /** The most aliases that a net of w streets catches, or the first street where it does. */
        int bestCatch(int w, boolean streetAsked) {
            int most = NONE;
            int first = 0;
            for (int s = 0; s + w <= STREETS; s++) {
                int count = 0;
                for (int a = 0; a < stock.world.aliases; a++) {
                    boolean free = stock.world.struck[a] == 0;
                    count += free && within(stock.world.in[a], s, s + w - 1) ? 1 : 0;
                }
                if (count > most) {
                    most = count;
                    first = s;
                }
            }
            return streetAsked ? first : most;
        }
    }

    /** Leads some to places that are allowed to them, no two to one place. */
    private static final class Matching {
        private static final int ROOM = 10;

        private final int[] allowed = new int[ROOM];
        private final int[] holder = new int[ROOM];
        private int tried;

        void allow(int i, int places) {
            if (within(i, 0, ROOM - 1)) {
                allowed[i] = places;
            }
        }

        /** The most of from .. n - 1 that get a place which is not taken. */
        int most(int from, int n, int taken) {
            Arrays.fill(holder, NONE);
            int count = 0;
            for (int i = from; i < n && i < ROOM; i++) {
                tried = taken;
                count += finds(i, 0) ? 1 : 0;
            }
            return count;
        }

        private boolean finds(int i, int depth) {
            if (depth > ROOM || !within(i, 0, ROOM - 1)) {
                return false;
            }
            for (int place = 0; place < ROOM; place++) {
                int bit = 1 << place;
                if ((allowed[i] & ~tried & bit) != 0) {
                    tried |= bit;
                    if (comesFree(place, depth)) {
                        holder[place] = i;
                        return true;
                    }
                }
            }
            return false;
        }

        private boolean comesFree(int place, int depth) {
            return holder[place] == NONE || finds(holder[place], depth + 1);
        }

        /** The place of that which is asked for, of 0 .. n - 1, when each takes the least that costs none behind it its own. */
        int firstPlace(int n, int asked) {
            int missing = most(0, n, 0);
            int taken = 0;
            int place = NONE;
            for (int i = 0; i <= asked && i < n && i < ROOM; i++) {
                place = leastPlace(i, n, taken, missing);
                if (place != NONE) {
                    taken |= 1 << place;
                    missing--;
                }
            }
            return place;
        }

        private int leastPlace(int i, int n, int taken, int missing) {
            for (int place = 0; place < ROOM; place++) {
                int bit = 1 << place;
                if ((allowed[i] & ~taken & bit) != 0 && 1 + most(i + 1, n, taken | bit) == missing) {
                    return place;
                }
            }
            return NONE;
        }
    }

    /** What can be found out in thought of that which was told for it alone. */
    private static final class Riddles {
        static final int NAMES = 10;
        static final int SPEAKERS = 8;
        static final int LETTERS = 26;
        static final int LONGEST_ROW = 5;
        static final int LENDERS = 6;
        static final int PILE = 40;
        private static final int WAYS = 0;
        private static final int MOST = 1;

        private final Stock told;
        private final int[] group = new int[NAMES];
        private final int[] apart = new int[NAMES];
        private final int[] persons = new int[NAMES];
        private int fewest;
        private final Matching bedding = new Matching();
        private final int[] counts = new int[LETTERS];
        private final int[] laidRows = new int[LONGEST_ROW + 1];
        private final int[] balance = new int[LENDERS];
        private final int[] evenGroups = new int[1 << LENDERS];
        private final int[] lost = new int[PILE + 1];

        Riddles(Stock told) {
            this.told = told;
            fillLost();
        }

        private void fillLost() {
            Arrays.fill(lost, NONE);
            int gap = 0;
            for (int a = 0; a <= PILE; a++) {
                if (lost[a] == NONE) {
                    lost[a] = a + gap;
                    if (a + gap <= PILE) {
                        lost[a + gap] = a;
                    }
                    gap++;
                }
            }
        }

        int groups() {
            for (int name = 0; name < NAMES; name++) {
                group[name] = name;
            }
            int count = NAMES;
            for (int i = 0; i < told.pairs.size; i++) {
                int a = groupOf(told.pairs.at(i, 0));
                int b = groupOf(told.pairs.at(i, 1));
                if (told.pairs.at(i, 2) == 1 && a != b) {
                    rename(Math.max(a, b), Math.min(a, b));
                    count--;
                }
            }
            return count;
        }

        private int groupOf(int name) {
            return within(name, 0, NAMES - 1) ? group[name] : 0;
        }

        private void rename(int from, int to) {
            for (int name = 0; name < NAMES; name++) {
                if (group[name] == from) {
                    group[name] = to;
                }
            }
        }

        /** Finds, too, which groups are apart. */
        boolean groupsCanBe() {
            groups();
            Arrays.fill(apart, 0);
            for (int i = 0; i < told.pairs.size; i++) {
                if (told.pairs.at(i, 2) == 0) {
                    int a = groupOf(told.pairs.at(i, 0));
                    int b = groupOf(told.pairs.at(i, 1));
                    if (a == b) {
                        return false;
                    }
                    apart[a] |= 1 << b;
                    apart[b] |= 1 << a;
                }
            }
            return true;
        }

        int fewestNamed() {
            if (!groupsCanBe()) {
                return NONE;
            }
            fewest = NAMES;
            placeName(0, 0);
            return Math.max(1, fewest);
        }

        /** Places name, and those behind it, among the persons used and new ones; what is no better is left. */
        private void placeName(int name, int used) {
            if (used >= fewest) {
                return;
            }
            int next = nextApart(name);
            if (next >= NAMES) {
                fewest = used;
            } else {
                tryPersons(next, used);
            }
        }

        /** The first name, from that one on, whose group is apart from another: only the least of a group tells that. */
        private int nextApart(int name) {
            int next = name;
            while (next < NAMES && apart[next] == 0) {
                next++;
            }
            return next;
        }

        private void tryPersons(int name, int used) {
            for (int p = 0; p <= used && p < NAMES; p++) {
                int before = p < used ? persons[p] : 0;
                if ((before & apart[name]) == 0) {
                    persons[p] = before | 1 << name;
                    placeName(name + 1, Math.max(used, p + 1));
                    persons[p] = before;
                }
            }
        }

        int trueSpeakers(int what) {
            int ways = 0;
            int most = NONE;
            int sure = (1 << SPEAKERS) - 1;
            for (int set = 0; set < 1 << SPEAKERS; set++) {
                if (canSpeakTrue(set)) {
                    ways++;
                    most = Math.max(most, Integer.bitCount(set));
                    sure &= set;
                }
            }
            if (what == WAYS) {
                return ways;
            }
            if (what == MOST) {
                return most;
            }
            return ways == 0 ? 0 : sure;
        }

        private boolean canSpeakTrue(int set) {
            for (int i = 0; i < told.words.size; i++) {
                int speaker = set >> told.words.at(i, 0) & 1;
                int other = set >> told.words.at(i, 1) & 1;
                boolean saidSo = other == told.words.at(i, 2);
                if (saidSo != (speaker == 1)) {
                    return false;
                }
            }
            return true;
        }

        int swingsOf(int i, int q) {
            int n = told.votes.size;
            int own = told.votes.at(i, 0);
            int count = 0;
            for (int set = 0; set < 1 << n; set++) {
                if ((set >> i & 1) == 0) {
                    int weight = weightOf(set);
                    count += weight < q && weight + own >= q ? 1 : 0;
                }
            }
            return count;
        }

        private int weightOf(int set) {
            int sum = 0;
            for (int i = 0; i < told.votes.size; i++) {
                sum += (set >> i & 1) * told.votes.at(i, 0);
            }
            return sum;
        }

        int neverSwing(int q) {
            int count = 0;
            for (int i = 0; i < told.votes.size; i++) {
                count += swingsOf(i, q) == 0 ? 1 : 0;
            }
            return count;
        }

        int together(int n, int d, int what) {
            long all = 1;
            long unlike = 1;
            for (int i = 0; i < n; i++) {
                all *= d;
                unlike *= Math.max(0, d - i);
            }
            long shared = commonDivisor(all, all - unlike);
            return (int) ((what == 0 ? all - unlike : all) / shared);
        }

        /** At least 1, whatever is asked. */
        static long commonDivisor(long a, long b) {
            for (int i = 0; i < 1000 && b != 0; i++) {
                long rest = a % b;
                a = b;
                b = rest;
            }
            return Math.max(1, a);
        }

        int shift() {
            int n = told.asItIs.size;
            if (n != told.asWritten.size) {
                return NONE;
            }
            int shift = n == 0 ? 0 : shiftAt(0);
            for (int i = 1; i < n; i++) {
                if (shiftAt(i) != shift) {
                    return NONE;
                }
            }
            return shift;
        }

        private int shiftAt(int i) {
            return Math.floorMod(told.asItIs.at(i, 0) - told.asWritten.at(i, 0), LETTERS);
        }

        boolean mirrored() {
            int n = told.asItIs.size;
            if (n != told.asWritten.size) {
                return false;
            }
            for (int i = 0; i < n; i++) {
                if (told.asItIs.at(i, 0) != told.asWritten.at(n - 1 - i, 0)) {
                    return false;
                }
            }
            return true;
        }

        int bootsAbed() {
            allowBeds();
            return bedding.most(0, told.boots.size, 0);
        }

        int bedOf(int boot) {
            allowBeds();
            return bedding.firstPlace(told.boots.size, boot);
        }

        private void allowBeds() {
            for (int i = 0; i < told.boots.size; i++) {
                int fitting = 0;
                for (int j = 0; j < told.beds.size; j++) {
                    boolean fits = within(told.boots.at(i, 0), told.beds.at(j, 0), told.beds.at(j, 1));
                    fitting |= fits ? 1 << j : 0;
                }
                bedding.allow(i, fitting);
            }
        }

        /** In how many unlike ways k of the letters can be laid: letter by letter, among those laid before. */
        int rows(int k) {
            Arrays.fill(counts, 0);
            for (int i = 0; i < told.letters.size; i++) {
                int letter = told.letters.at(i, 0);
                if (within(letter, 0, LETTERS - 1)) {
                    counts[letter]++;
                }
            }
            Arrays.fill(laidRows, 0);
            laidRows[0] = 1;
            for (int letter = 0; letter < LETTERS; letter++) {
                for (int laid = LONGEST_ROW; laid > 0; laid--) {
                    for (int own = 1; own <= counts[letter] && own <= laid; own++) {
                        laidRows[laid] += laidRows[laid - own] * choices(laid, own);
                    }
                }
            }
            return within(k, 0, LONGEST_ROW) ? laidRows[k] : NONE;
        }

        private static int choices(int of, int some) {
            int ways = 1;
            for (int i = 1; i <= some; i++) {
                ways = ways * (of - some + i) / i;
            }
            return ways;
        }

        int toGet(int who) {
            int sum = 0;
            for (int i = 0; i < told.loans.size; i++) {
                int v = told.loans.at(i, 2);
                sum += told.loans.at(i, 0) == who ? v : 0;
                sum -= told.loans.at(i, 1) == who ? v : 0;
            }
            return sum;
        }

        /** Those who are even among themselves need one gift less than they are; so as many such groups as can be. */
        int fewestGifts() {
            for (int who = 0; who < LENDERS; who++) {
                balance[who] = toGet(who);
            }
            evenGroups[0] = 0;
            for (int set = 1; set < 1 << LENDERS; set++) {
                int sum = 0;
                int most = 0;
                for (int who = 0; who < LENDERS; who++) {
                    if ((set >> who & 1) != 0) {
                        sum += balance[who];
                        most = Math.max(most, evenGroups[set ^ 1 << who]);
                    }
                }
                evenGroups[set] = most + (sum == 0 ? 1 : 0);
            }
            return LENDERS - evenGroups[(1 << LENDERS) - 1];
        }

        /** What to take of the first or the second pile so that the other loses; the fewest, then the fewest of the first. */
        int goodTake(int a, int b, boolean secondAsked) {
            for (int all = 1; all <= a + b; all++) {
                int first = NONE;
                if (leavesLost(a, b - all)) {
                    first = 0;
                } else if (all % 2 == 0 && leavesLost(a - all / 2, b - all / 2)) {
                    first = all / 2;
                } else if (leavesLost(a - all, b)) {
                    first = all;
                }
                if (first != NONE) {
                    return secondAsked ? all - first : first;
                }
            }
            return NONE;
        }

        private boolean leavesLost(int a, int b) {
            return within(a, 0, PILE) && b >= 0 && lost[a] == b;
        }
    }
}
