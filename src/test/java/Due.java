/** Counts answers that are not the ones due; makes a house and tells it a text. */
final class Due {
    static int wrong = 0;
    static int asked = 0;
    private static String told = "";

    private Due() {
    }

    /** Two persons; aliases 0 and 1 are of the first, 2 of the second; streets 1, 2, 1. */
    static AliasHouse house() {
        AliasHouse x = new AliasHouse();
        x.person(2, 100);
        x.person(3, 5);
        x.alias(0, 5, 1);
        x.alias(0, 7, 2);
        x.alias(1, 2, 1);
        return x;
    }

    /** Which promise, or part of Terms, is asked about from here on, in which of its sentences: said of each wrong answer. */
    static void says(String promise, String sentence) {
        told = promise + ", \"" + sentence + "\": ";
    }

    static void is(String what, long got, long want) {
        asked++;
        if (got != want) {
            wrong++;
            System.out.println(told + what + " answered " + got + ", due is " + want);
        }
    }

    static void is(String what, boolean got, boolean want) {
        is(what, got ? 1 : 0, want ? 1 : 0);
    }

    /** The bytes of the text come behind the tape, which is cut behind them. */
    static void tape(AliasHouse x, String text, int before) {
        for (int i = 0; i < text.length(); i += 20) {
            x.feed(four(text, i), four(text, i + 4), four(text, i + 8), four(text, i + 12), four(text, i + 16));
        }
        x.end(before + text.length());
    }

    static int four(String text, int from) {
        int v = 0;
        for (int i = from; i < from + 4; i++) {
            v = v << 8 | (i < text.length() ? text.charAt(i) & 255 : 32);
        }
        return v;
    }

    static int text(AliasHouse x, int k, String text) {
        tape(x, text, 0);
        return x.text(k);
    }

    static void lines(AliasHouse x, int k, String text, int lines) {
        is("text " + k + " \"" + text + "\"", text(x, k, text), lines);
        is("fault of \"" + text + "\"", x.fault(0), 0);
        is("place of \"" + text + "\"", x.fault(1), -1);
    }

    static void fault(AliasHouse x, int k, String text, int fault, int place) {
        is("text " + k + " \"" + text + "\"", text(x, k, text), -1);
        is("fault of \"" + text + "\"", x.fault(0), fault);
        is("place of \"" + text + "\"", x.fault(1), place);
    }

    static void finish(String name) {
        System.out.println(name + ": " + asked + " asked, " + wrong + " wrong");
        if (wrong != 0) {
            System.exit(1);
        }
    }
}
