/** What the project's tests share: counting wrong answers, feeding a text. */
final class CheckKit {
    static final int NONE = PlateVote.NONE;
    private static int checks = 0;
    private static int wrong = 0;

    private CheckKit() {
    }

    static void due(String what, long got, long want) {
        checks++;
        if (got != want) {
            wrong++;
            System.out.println(SentenceKit.now() + what + ": answered " + got + ", due is " + want);
        }
    }

    static void due(String what, boolean got, boolean want) {
        due(what, got ? 1 : 0, want ? 1 : 0);
    }

    static int checks() {
        return checks;
    }

    /** Feeds a text, filled up with blanks to whole feeds. */
    static void feedAll(PlateVote x, String text) {
        for (int i = 0; i < text.length(); i += 20) {
            x.feed(four(text, i), four(text, i + 4), four(text, i + 8), four(text, i + 12), four(text, i + 16));
        }
    }

    private static int four(String text, int at) {
        int number = 0;
        for (int i = at; i < at + 4; i++) {
            number = number << 8 | (i < text.length() ? text.charAt(i) : ' ');
        }
        return number;
    }

    static int tell(PlateVote x, String text) {
        feedAll(x, text);
        return x.text(text.length());
    }

    static PlateVote told(String text) {
        PlateVote x = new PlateVote();
        int lines = tell(x, text);
        if (lines < 0) {
            due("the text '" + text + "' has fault " + x.fault(0) + " at " + x.fault(1), lines, 1);
        }
        return x;
    }

    static void fault(String text, int kind, int place) {
        PlateVote x = new PlateVote();
        int lines = tell(x, text);
        due("text of '" + text + "'", lines < 0, kind != 0);
        due("fault of '" + text + "'", x.fault(0), kind);
        due("place in '" + text + "'", x.fault(1), place);
    }

    /** A text with a fault where the sign | stands in it, which is no part of it. */
    static void faultAt(String marked, int kind) {
        int place = marked.indexOf('|');
        fault(marked.substring(0, place) + marked.substring(place + 1), kind, place);
    }

    /** A text without a fault, of so many lines. */
    static void fine(String text, int lines) {
        PlateVote x = new PlateVote();
        due("lines of '" + text + "'", tell(x, text), lines);
        due("no fault in '" + text + "'", x.fault(0), 0);
        due("no place in '" + text + "'", x.fault(1), NONE);
    }

    static int letters(String name) {
        int packed = 0;
        for (int i = 0; i < 6; i++) {
            packed = packed << 5 | (i < name.length() ? name.charAt(i) - 'a' + 1 : 0);
        }
        return packed;
    }

    static void end() {
        System.out.println(checks + " checks, " + wrong + " wrong");
        if (wrong != 0 || checks == 0) {
            System.exit(1);
        }
    }
}
