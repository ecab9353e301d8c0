import java.util.NoSuchElementException;

/** The edges of promises 1 to 16: the tape, the text, what there is now, meals and their log. */
final class CallEdgesKit {
    static final int[] WILD = {Integer.MIN_VALUE, Integer.MIN_VALUE + 1, -65536, -100, -64, -33, -3, 100, 128, 800, 1000, 65536,
        1 << 30, Integer.MAX_VALUE - 1, Integer.MAX_VALUE};

    private CallEdgesKit() {
    }

    static void run() {
        calls();
        newObject();
        feed();
        text();
        textIsNew();
        textBehindText();
        textWithFault();
        textOfTooMuch();
        fault();
        named();
        look();
        lookThrows();
        ship();
        farAndLand();
        wish();
        law();
        votes();
        fed();
        truth();
        meals();
        log();
    }

    private static void calls() {
        SentenceKit.begin("What it is", "An object is used for at most 512 calls after it has been made;");
        PlateVote x = new PlateVote();
        for (int k = 0; k < 170; k++) {
            x.keep();
            x.meals(1);
            x.undo();
        }
        CheckKit.due("the 511th", x.meals(1), 1);
        CheckKit.due("the 512th", x.back(), 0);
    }

    private static void newObject() {
        SentenceKit.promise(1, "No TEXT: a sea of 4 by 4, nobody ABOARD;");
        PlateVote x = new PlateVote();
        int[] counts = {4, 4, 0, 0, 0, 0, 0, 0, 0, 0, 0};
        for (int what = 0; what < counts.length; what++) {
            CheckKit.due("count " + what, x.count(what), counts[what]);
        }
        CheckKit.due("no text had a fault", x.fault(0), 0);
        CheckKit.due("nor a place", x.fault(1), -1);
        CheckKit.due("the ship", x.ship(0), 0);
        CheckKit.due("bahia", x.ship(1), 0);
        CheckKit.due("soup", x.ship(2), 100);
        CheckKit.due("at bahia", x.ship(3), 0);
        CheckKit.due("from corner to corner", x.far(0, 15), 6);
        CheckKit.due("no cell behind it", x.far(0, 16), -1);
        for (int cell = 0; cell < 16; cell++) {
            CheckKit.due("no land", x.land(cell), 0);
        }
        CheckKit.due("no mouth", x.wish(0), -1);
        CheckKit.due("no mouth", threw(x, 0, 0), 1);
        CheckKit.due("no law", x.law(0, 1, 1), Long.MIN_VALUE);
        CheckKit.due("no power", x.power(0, 0), -1);
        CheckKit.due("nobody to feed", x.fed(0), true);
        CheckKit.due("nobody to feed", x.fed(1), false);
        CheckKit.due("no may", x.truth(0), true);
        CheckKit.due("no may", x.truth(1), false);
        CheckKit.due("the empty set", x.fits(), 1);
        CheckKit.due("no may", x.sure(0), -1);
        CheckKit.due("no may", x.odds(0, 0), -1);
        CheckKit.due("no fraud", x.fraud(), -1);
        CheckKit.due("no note", x.strike(0), -1);
        CheckKit.due("no image", x.back(), -1);
        CheckKit.due("nothing to undo", x.undo(), -1);
        CheckKit.due("no meal gone by", x.log(0, 0), -1);
        CheckKit.due("a plan", x.plan(3, -1), 0);
        CheckKit.due("tried", x.tried(1, 0, 60), 0);
        CheckKit.due("no votes", x.votes(0), 0);
        CheckKit.due("all meals", x.meals(60), 60);

        SentenceKit.promise(1, "an empty TAPE.");
        x = new PlateVote();
        CheckKit.due("no byte", x.text(1), -2);
        CheckKit.due("none", x.text(0), 0);
        CheckKit.due("the first twenty", x.feed(1, 2, 3, 4, 5), 20);
    }

    private static void feed() {
        SentenceKit.promise(2, "Twenty bytes come behind the TAPE, four of each number, the highest first: how many it has;");
        PlateVote x = new PlateVote();
        CheckKit.due("twenty", x.feed(0x736f7570, 0x20343332, 0x313b7365, 0x65642035, 0x3b776967), 20);
        CheckKit.due("behind them", x.feed(0x6e642033, 0x3b202020, 0x20202020, 0x20202020, 0x20202020), 40);
        CheckKit.due("a wrong letter", x.text(40), -1);
        CheckKit.due("its place", x.fault(1), 17);
        x.feed(0x736f7570, 0x20343332, 0x313b7365, 0x65642035, 0x3b77696e);
        x.feed(0x6420333b, 0x20202020, 0x20202020, 0x20202020, 0x20202020);
        CheckKit.due("soup 4321;seed 5;wind 3;", x.text(40), 3);
        CheckKit.due("soup", x.ship(2), 4321);
        x.meals(1);
        CheckKit.due("wind", x.log(0, 0), 3);
        for (int place = 0; place < 20; place++) {
            int[] n = new int[5];
            for (int k = 0; k < 20; k++) {
                n[k / 4] = n[k / 4] << 8 | (k == place ? 0xff : 0x20);
            }
            x.feed(n[0], n[1], n[2], n[3], n[4]);
            CheckKit.due("a byte 255 at " + place, x.text(20), -1);
            CheckKit.due("a byte 255 at " + place, x.fault(1), place);
        }

        SentenceKit.promise(2, "NONE, and none come, if it would have more than 800.");
        x = new PlateVote();
        int blanks = 0x20202020;
        for (int k = 1; k <= 39; k++) {
            CheckKit.due("feed " + k, x.feed(blanks, blanks, blanks, blanks, blanks), 20 * k);
        }
        CheckKit.due("just 800", x.feed(blanks, blanks, blanks, 0x20736f75, 0x7020373b), 800);
        CheckKit.due("more", x.feed(0x736f7570, 0x20383b20, blanks, blanks, blanks), -1);
        CheckKit.due("more", x.feed(0, 0, 0, 0, 0), -1);
        CheckKit.due("none came", x.text(801), -2);
        CheckKit.due("none came", x.text(820), -2);
        CheckKit.due("the 800", x.text(800), 1);
        CheckKit.due("soup 7", x.ship(2), 7);
        CheckKit.due("empty again", x.feed(blanks, blanks, blanks, blanks, blanks), 20);
    }

    private static void text() {
        SentenceKit.promise(3, "The TAPE's first n bytes (it is empty then) are the TEXT");
        PlateVote x = new PlateVote();
        CheckKit.feedAll(x, "soup 1;soup 2;seed 1;");
        CheckKit.due("the first seven", x.text(7), 1);
        CheckKit.due("soup", x.ship(2), 1);
        CheckKit.due("empty then", x.text(1), -2);
        CheckKit.feedAll(x, "soup 21;");
        CheckKit.due("a piece", x.text(6), -1);
        CheckKit.due("its fault's place", x.fault(1), 6);
        CheckKit.due("empty then, too", x.text(1), -2);
        CheckKit.feedAll(x, "soup 3;");
        CheckKit.due("no byte", x.text(0), 0);
        CheckKit.due("no line", x.ship(2), 100);
        CheckKit.due("empty then, too", x.text(1), -2);
        CheckKit.due("none of an empty tape", x.text(0), 0);
        StringBuilder full = new StringBuilder();
        for (int k = 0; k < 10; k++) {
            full.append(String.format("%79s", k < 9 ? "" : "soup 9;")).append('\n');
        }
        CheckKit.due("all 800", CheckKit.tell(x, full.toString()), 1);
        CheckKit.due("all 800", x.ship(2), 9);
        textOfAllBytes();
    }

    private static void textOfAllBytes() {
        for (String sign : new String[] {";", "(", "=", "0", "?", "<"}) {
            PlateVote x = new PlateVote();
            CheckKit.due("800 tokens", CheckKit.tell(x, sign.repeat(800)), -1);
            CheckKit.due("800 tokens", x.fault(1), 0);
            CheckKit.due("the rest of it", CheckKit.tell(x, "mouth a 1 " + sign.repeat(790)), -1);
        }
        PlateVote x = new PlateVote();
        CheckKit.due("one word", CheckKit.tell(x, "a".repeat(800)), -1);
        CheckKit.due("one word", x.fault(1), 0);
        CheckKit.due("one number", CheckKit.tell(x, "soup 7" + "7".repeat(794)), -1);
        CheckKit.due("one number", x.fault(0) * 10 + x.fault(1), 25);
        CheckKit.due("noughts", CheckKit.tell(x, "soup " + "0".repeat(793) + "7;"), 1);
        CheckKit.due("noughts", x.ship(2), 7);
        CheckKit.due("more must come", CheckKit.tell(x, "soup " + "0".repeat(794) + "7"), -1);
        CheckKit.due("more must come", x.fault(1), 800);
        String text = "mouth abc 1 far<=12;";
        for (int n = 0; n < text.length(); n++) {
            CheckKit.feedAll(x, text);
            CheckKit.due("cut at " + n, x.text(n), n == 0 ? 0 : -1);
            int word = n < 5 ? 0 : n == 13 || n == 14 ? 12 : n;
            CheckKit.due("cut at " + n + ", its place", x.fault(1), n == 0 ? -1 : word);
        }
    }

    private static void textIsNew() {
        SentenceKit.promise(3, "(MEAL 0 is next, all FED, no MAY is, no NOTES, all KNOWN, no IMAGE, nothing to undo then): how many LINES;");
        PlateVote x = CheckKit.told("sea 5 5;ship 1 1;land 3 3;bahia 4 4;isle i 2 2 9 9;gale 0 1 9;wind 1;storm 9 9;seed 9;soup 9;"
                + "mouth a 2 loses 1 course=3;mouth b 1 course=1;may c 1 odds 5 course=0;");
        x.truth(1);
        x.meals(1);
        CheckKit.due("a has lost and leapt", x.look(0, 2) + x.look(0, 3), 2);
        x.fed(2);
        x.meals(29);
        x.keep();
        x.taken(0, 1);
        x.washed(1, 1);
        x.known(1);
        CheckKit.due("lines", CheckKit.tell(x, "mouth a 2 far;may d 3 odds 1 1;"), 2);
        int[] counts = {4, 4, 1, 1, 0, 2, 0, 0, 0, 0, 1};
        for (int what = 0; what < counts.length; what++) {
            CheckKit.due("count " + what, x.count(what), counts[what]);
        }
        int[] mouth = {1, 2, 0, 0, 1};
        int[] may = {0, 3, 0, 0, 1};
        for (int what = 0; what < 5; what++) {
            CheckKit.due("mouth, what " + what, x.look(0, what), mouth[what]);
            CheckKit.due("may, what " + what, x.look(1, what), may[what]);
        }
        int[] ship = {0, 0, 100, 0};
        for (int what = 0; what < 4; what++) {
            CheckKit.due("ship " + what, x.ship(what), ship[what]);
        }
        CheckKit.due("no isle", x.named(0, CheckKit.letters("i")), -1);
        CheckKit.due("no b", x.named(1, CheckKit.letters("b")), -1);
        CheckKit.due("no c", x.named(1, CheckKit.letters("c")), -1);
        CheckKit.due("d", x.named(1, CheckKit.letters("d")), 1);
        CheckKit.due("no land", x.land(15), 0);
        CheckKit.due("no image", x.back(), -1);
        CheckKit.due("nothing to undo", x.undo(), -1);
        CheckKit.due("no log", x.log(0, 0), -1);
        CheckKit.due("no gale, no isle", x.votes(1), 2);
        CheckKit.due("all fit", x.fits(), 3);
        CheckKit.due("no fraud", x.fraud(), -1);
        x.meals(1);
        CheckKit.due("a note", x.taken(0, 1), 0);
        CheckKit.due("all known", x.count(8), 1);
        CheckKit.due("no wind, no storm", x.log(0, 3), -1);
        CheckKit.due("no lines", x.text(0), 0);
        CheckKit.due("nobody", x.count(2) + x.count(3) + x.count(6) + x.count(7), 0);
    }

    /** Nothing of another text, with a fault or without, is in the next one. */
    private static void textBehindText() {
        String much = "sea 8 7;ship 3 3;bahia 4 4;land 1 1;land 2 2;isle i 2 1 9 9;isle j 2 1 9 9;isle k 2 1 9 9;wind 1 2 3 3;gale 0 1 9;gale 0 1 9;"
                + "gale 0 1 9;gale 0 1 9;storm 99 99;soup 7;seed 7;mouth a 9 from 5 till 6 sick 0 59 loses 1 1+2*3;mouth b 9 from 5 sick 0 59 7;"
                + "may c 9 odds 99 from 5 till 6 sick 0 59 loses 1 (not 1);";
        SentenceKit.promise(3, "The TAPE's first n bytes (it is empty then) are the TEXT");
        String[] ends = {"?", "", "mouth a 1 1;", "mouth z 1 ((((((((|", "mouth z 1 not (1 or 2+3*", "may z 9 odds 9 from 9 sick 9 9"};
        for (String end : ends) {
            PlateVote x = new PlateVote();
            for (int k = 0; k < 3; k++) {
                CheckKit.due("a text ahead", CheckKit.tell(x, much + end), end.isEmpty() ? 19 : -1);
                CheckKit.due("the next", CheckKit.tell(x, "ship 1 0;mouth a 1 ((((((((5-3))))))));may c 2 odds 50 far-2;mouth d 3 9;"), 4);
                int[] counts = {4, 4, 2, 1, 0, 7, 0, 0, 0, 0, 2};
                for (int what = 0; what < counts.length; what++) {
                    CheckKit.due("behind " + end + ", count " + what, x.count(what), counts[what]);
                }
                int[] ship = {1, 0, 100, -1};
                int[] plates = {1, 3, 2};
                long[] laws = {2, 9, 0};
                for (int i = 0; i < 3; i++) {
                    CheckKit.due("aboard " + i, x.look(i, 0), i < 2 ? 1 : 0);
                    CheckKit.due("plates of " + i, x.look(i, 1), plates[i]);
                    CheckKit.due("law of " + i, x.law(i, 1, 1), laws[i]);
                    CheckKit.due("votes " + i, x.votes(i), i == 1 ? 4 : 0);
                }
                for (int what = 0; what < 4; what++) {
                    CheckKit.due("ship " + what, x.ship(what), ship[what]);
                }
                CheckKit.due("no land", x.land(5) + x.land(10), 0);
                CheckKit.due("no isle", x.named(0, CheckKit.letters("i")), -1);
                CheckKit.due("odds", x.odds(0, 1), 2);
                x.fed(0);
                x.meals(2);
                CheckKit.due("no wind, no storm", x.log(0, 0) + x.log(1, 0) + x.log(0, 3) + x.log(1, 3), -2);
            }
        }
        seedAndShipBehindText();
        crewsInTurn();
    }

    private static void seedAndShipBehindText() {
        PlateVote x = new PlateVote();
        PlateVote other = CheckKit.told("storm 60 1;");
        other.meals(40);
        for (int k = 0; k < 3; k++) {
            CheckKit.tell(x, "ship 3 3;bahia 2 2;seed 4711;storm 60 1;");
            CheckKit.tell(x, "ship 3 3;bahia 2 2;seed 4711;storm 60 1;");
            CheckKit.due("told", x.ship(0) * 100 + x.ship(1), 1510);
            CheckKit.tell(x, "storm 60 1;");
            CheckKit.due("without", x.ship(0) * 100 + x.ship(1), 0);
            x.meals(40);
            for (int t = 0; t < 40; t++) {
                CheckKit.due("as of seed 0 at meal " + t, x.log(t, 3), other.log(t, 3));
            }
        }
    }

    private static void crewsInTurn() {
        String[] texts = {"may e 5 odds 1 55;may f 6 odds 1 66;mouth a 1 11;", "mouth a 1 11;mouth b 2 22;mouth c 3 33;mouth d 4 44;mouth e 5 55;may f 6 odds 1 66;"
            + "may g 7 odds 1 77;may h 8 odds 1 88;may i 9 odds 1 99;", "may a 1 odds 1 11;may b 2 odds 1 22;may c 3 odds 1 33;may d 4 odds 1 44;", ""};
        int[][] plates = {{1, 5, 6}, {1, 2, 3, 4, 5, 6, 7, 8, 9}, {1, 2, 3, 4}, {}};
        PlateVote x = new PlateVote();
        for (int k = 0; k < 9; k++) {
            int which = k * 7 % 4;
            CheckKit.tell(x, texts[which]);
            for (int i = 0; i < plates[which].length; i++) {
                String name = String.valueOf((char) ('a' + plates[which][i] - 1));
                CheckKit.due("text " + which + ", number of " + name, x.named(1, CheckKit.letters(name)), i);
                CheckKit.due("text " + which + ", plates of " + name, x.look(i, 1), plates[which][i]);
                CheckKit.due("text " + which + ", law of " + name, x.law(i, 1, 0), 11 * plates[which][i]);
            }
            CheckKit.due("text " + which + ", no more", threw(x, plates[which].length, 0), 1);
        }
    }

    private static void textWithFault() {
        SentenceKit.promise(3, "NONE with a FAULT, all stays;");
        String[] faults = {"sea 2 2;land 1 1;soup", "mouth z 1 1;isle z 0 0 9 9;may y 1 odds 1 1;?", "wind 3;gale 0 3 9;storm 99 99;soup 7;seed 7;;",
            "ship 3 3;bahia 3 3;land 0 0;mouth a 9 9;mouth a 9 9;", "abcdefg"};
        for (String fault : faults) {
            PlateVote x = CheckKit.told("sea 5 5;ship 1 1;bahia 2 1;land 3 3;isle i 4 4 1 1;wind 1 2;soup 50;mouth a 2 loses 3 course=3;"
                    + "mouth b 1 course=1;may c 1 odds 5 course=0;");
            x.fed(2);
            x.truth(1);
            x.meals(2);
            x.keep();
            x.meals(1);
            x.taken(0, 1);
            x.washed(1, 1);
            x.known(1);
            String before = state(x);
            CheckKit.due("fault", CheckKit.tell(x, fault), -1);
            CheckKit.due("all stays with " + fault + "\n" + before + "\n" + state(x), state(x).equals(before), true);
            CheckKit.due("the image stays", x.back(), 2);
        }
    }

    /** What all calls that change nothing answer. */
    static String state(PlateVote x) {
        StringBuilder all = new StringBuilder();
        for (int what = 0; what < 11; what++) {
            all.append(x.count(what)).append(' ');
        }
        for (int i = 0; i < x.count(2) + x.count(3); i++) {
            for (int what = 0; what < 5; what++) {
                all.append(x.look(i, what)).append(' ');
            }
            all.append(x.wish(i)).append(' ').append(x.power(i, 0)).append('/').append(x.power(i, 1)).append(' ');
            all.append(x.law(i, 1, 1)).append(' ');
        }
        for (int k = 0; k < 4; k++) {
            all.append(x.ship(k)).append(' ').append(x.votes(k)).append(' ').append(x.odds(k, 0)).append('/').append(x.odds(k, 1)).append(' ');
            all.append(x.log(0, k)).append(' ').append(x.log(1, k)).append(' ').append(x.log(2, k)).append(' ').append(x.sure(k)).append(' ');
        }
        for (int cell = 0; cell < 25; cell += 6) {
            all.append(x.land(cell)).append(' ').append(x.far(1, cell)).append(' ');
        }
        all.append(x.fits()).append(' ').append(x.fraud()).append(' ').append(x.plan(3, -1)).append(' ').append(x.plan(2, 0)).append(' ');
        for (int what = 0; what < 6; what++) {
            all.append(x.tried(what, 0, 5)).append(' ');
        }
        return all.append(x.named(0, CheckKit.letters("i"))).append(' ').append(x.named(1, CheckKit.letters("c"))).toString();
    }

    private static void textOfTooMuch() {
        SentenceKit.promise(3, "-2, and the TAPE stays: there are not so many, n is below 0.");
        PlateVote x = new PlateVote();
        CheckKit.due("none there", x.text(1), -2);
        CheckKit.feedAll(x, "soup 1;mouth a 1 1;?");
        CheckKit.due("one too many", x.text(21), -2);
        CheckKit.due("below 0", x.text(-1), -2);
        for (int n : WILD) {
            CheckKit.due("n " + n, x.text(n), -2);
        }
        CheckKit.due("nothing was told", x.ship(2), 100);
        CheckKit.due("the tape stays", x.feed(0, 0, 0, 0, 0), 40);
        CheckKit.due("one too many", x.text(41), -2);
        CheckKit.due("the tape stays", x.text(19), 2);
        CheckKit.due("as it was", x.ship(2), 1);
    }

    private static void fault() {
        SentenceKit.promise(4, "Of the latest text() that was not -2, what 0: its FAULT (0), 1: its place (NONE without).");
        PlateVote x = new PlateVote();
        x.text(5);
        CheckKit.due("no such one", x.fault(0), 0);
        CheckKit.due("no such one", x.fault(1), -1);
        CheckKit.tell(x, "soup 10000;");
        CheckKit.due("a fault", x.fault(0), 2);
        CheckKit.due("its place", x.fault(1), 5);
        x.text(5);
        x.text(-1);
        x.feed(1, 2, 3, 4, 5);
        x.meals(3);
        CheckKit.due("it stays", x.fault(0), 2);
        CheckKit.due("it stays", x.fault(1), 5);
        CheckKit.due("all of it", x.text(20), -1);
        CheckKit.due("the latest", x.fault(0), 1);
        CheckKit.due("the latest's place", x.fault(1), 0);
        CheckKit.tell(x, "soup 1;");
        CheckKit.due("none", x.fault(0), 0);
        CheckKit.due("no place", x.fault(1), -1);
        for (String text : new String[] {"?", "sea 9 9;", "seed 1;seed", "land 1 1;sea", "land 1 1;ship 1 1;"}) {
            CheckKit.tell(x, text);
            CheckKit.due("kinds 1 to 5 in turn: " + text, x.fault(0), text.equals("?") ? 1 : text.startsWith("sea") ? 2
                    : text.startsWith("seed") ? 3 : text.endsWith("sea") ? 4 : 5);
        }

        SentenceKit.promise(4, "NONE for another what.");
        CheckKit.due("what 2", x.fault(2), -1);
        CheckKit.due("what -1", x.fault(-1), -1);
        for (int what : WILD) {
            CheckKit.due("what " + what, x.fault(what), -1);
        }
    }

    private static void named() {
        SentenceKit.promise(5, "The number of an ISLE (what 0), MOUTH (1, MAY too) by its letters, 5 bits each (a is 1; the first one highest of six, 0 behind "
                + "the last one);");
        PlateVote x = CheckKit.told("isle zzzzzz 1 1 1 1;isle a 1 1 1 1;isle az 1 1 1 1;may zzzzzz 1 odds 1 1;mouth a 1 1;may z 1 odds 1 1;mouth abcdef 1 1;");
        CheckKit.due("isle zzzzzz", x.named(0, 26 * (1 + 32 + 1024 + 32768 + 1048576 + 33554432)), 0);
        CheckKit.due("isle a", x.named(0, 1 << 25), 1);
        CheckKit.due("isle az", x.named(0, (1 << 25) + (26 << 20)), 2);
        CheckKit.due("mouth a", x.named(1, 1 << 25), 0);
        CheckKit.due("mouth abcdef", x.named(1, (1 << 25) + (2 << 20) + (3 << 15) + (4 << 10) + (5 << 5) + 6), 1);
        CheckKit.due("may zzzzzz", x.named(1, CheckKit.letters("zzzzzz")), 2);
        CheckKit.due("may z", x.named(1, 26 << 25), 3);

        SentenceKit.promise(5, "NONE: there is none such.");
        CheckKit.due("no isle z", x.named(0, 26 << 25), -1);
        CheckKit.due("no mouth az", x.named(1, CheckKit.letters("az")), -1);
        CheckKit.due("lowest of six", x.named(1, 1), -1);
        CheckKit.due("no letters", x.named(0, 0), -1);
        CheckKit.due("no letters", x.named(1, 0), -1);
        CheckKit.due("bits above", x.named(1, 1 << 25 | 1 << 30), -1);
        CheckKit.due("bits above", x.named(1, 1 << 25 | 1 << 31), -1);
        CheckKit.due("a gap between", x.named(1, (1 << 25) + (2 << 15)), -1);
        CheckKit.due("what 2", x.named(2, 1 << 25), -1);
        CheckKit.due("what -1", x.named(-1, 1 << 25), -1);
        for (int wild : WILD) {
            CheckKit.due("what " + wild, x.named(wild, 1 << 25), -1);
            CheckKit.due("letters " + wild, x.named(1, wild), -1);
            CheckKit.due("letters " + wild, x.named(0, wild), -1);
        }
        CheckKit.due("none at all", new PlateVote().named(0, 0), -1);
        CheckKit.due("none at all", new PlateVote().named(1, 0), -1);
    }

    /** 1, 2 for what look threw, 0 if nothing. */
    static int threw(PlateVote x, int mouth, int what) {
        try {
            x.look(mouth, what);
            return 0;
        } catch (IndexOutOfBoundsException e) {
            return 1;
        } catch (NoSuchElementException e) {
            return 2;
        }
    }

    private static void look() {
        PlateVote x = CheckKit.told("sea 5 5;ship 2 2;mouth a 9 course=1+2*(meal-meal/2*2);mouth b 3 from 1 till 2 sick 2 3 loses 2 course=0;"
                + "may c 2 odds 1 till 3 loses 1 course=0;");
        SentenceKit.promise(6, "Of a MOUTH (MAY, too) now, what 0: whether ABOARD at the MEAL that is next (1, 0),");
        int[] b = {0, 1, 1, 0, 0};
        int[] c = {0, 0, 1, 1, 0};
        for (int t = 0; t < 5; t++) {
            x.truth(t < 2 ? 0 : 1);
            x.fed(0);
            CheckKit.due("b, meal " + t, x.look(1, 0), b[t]);
            CheckKit.due("c, meal " + t, x.look(2, 0), c[t]);
            CheckKit.due("a, meal " + t, x.look(0, 0), 1);
            x.meals(1);
        }
        x.meals(55);
        CheckKit.due("no meal is next", x.look(0, 0), 0);

        SentenceKit.promise(6, "1: plates as told then (0 while sick),");
        x = CheckKit.told("soup 1;mouth a 9 1;mouth b 3 sick 1 2 1;may c 2 odds 1 sick 0 0 1;");
        int[] plates = {3, 0, 0, 3, 3};
        x.fed(0);
        for (int t = 0; t < 5; t++) {
            CheckKit.due("told, not what is left: meal " + t, x.look(0, 1), 9);
            CheckKit.due("b, meal " + t, x.look(1, 1), plates[t]);
            CheckKit.due("c, meal " + t, x.look(2, 1), t == 0 ? 0 : 2);
            x.meals(1);
        }

        SentenceKit.promise(6, "2 LOST in a row,");
        x = CheckKit.told("sea 5 5;ship 2 2;mouth a 9 sick 3 3 course=1+2*(meal-meal/2*2);mouth b 3 loses 9 course=0;may c 2 odds 1 loses 2 course=0;");
        x.truth(1);
        int[] lost = {0, 1, 2, 3, 0, 1};
        int[] may = {0, 1, 2, 2, 2, 2};
        for (int t = 0; t < lost.length; t++) {
            CheckKit.due("b, meal " + t, x.look(1, 2), lost[t]);
            CheckKit.due("c, meal " + t, x.look(2, 2), may[t]);
            x.meals(1);
        }

        SentenceKit.promise(6, "3 LEAPT (1, 0),");
        CheckKit.due("a", x.look(0, 3), 0);
        CheckKit.due("b", x.look(1, 3), 0);
        CheckKit.due("c", x.look(2, 3), 1);
        x.truth(0);
        CheckKit.due("c, though he isn't", x.look(2, 3), 1);
        for (int k = 0; k < 5; k++) {
            x.undo();
        }
        CheckKit.due("c, undone", x.look(2, 3), 0);

        SentenceKit.promise(6, "4 FED (1, 0; MAY 1).");
        int[] fed = {0, 1, 2, 3};
        for (int bits : fed) {
            x.fed(bits);
            CheckKit.due("a", x.look(0, 4), bits & 1);
            CheckKit.due("b", x.look(1, 4), bits >> 1);
            CheckKit.due("c", x.look(2, 4), 1);
        }
    }

    private static void lookThrows() {
        PlateVote x = CheckKit.told("mouth a 9 1;may c 2 odds 1 1;");
        SentenceKit.promise(6, "IndexOutOfBoundsException: no such MOUTH.");
        CheckKit.due("the last", threw(x, 1, 4), 0);
        CheckKit.due("behind it", threw(x, 2, 4), 1);
        CheckKit.due("below", threw(x, -1, 0), 1);
        CheckKit.due("none at all", threw(new PlateVote(), 0, 0), 1);
        for (int wild : WILD) {
            CheckKit.due("mouth " + wild, threw(x, wild, 0), 1);
        }

        SentenceKit.promise(6, "NoSuchElementException: no such what.");
        CheckKit.due("behind the last", threw(x, 0, 5), 2);
        CheckKit.due("below", threw(x, 1, -1), 2);
        for (int wild : WILD) {
            CheckKit.due("what " + wild, threw(x, 0, wild), 2);
        }
        x.meals(60);
        for (int what = 0; what < 5; what++) {
            CheckKit.due("at the end, too", threw(x, 1, what), 0);
        }
    }

    private static void ship() {
        SentenceKit.promise(7, "What 0 the SHIP's CELL, 1 BAHIA, 2 SOUP,");
        PlateVote x = CheckKit.told("sea 3 2;ship 1 0;bahia 2 1;soup 5;mouth a 3 course=2;");
        int[] ahead = {1, 5, 5};
        int[] behind = {4, 5, 2};
        for (int what = 0; what < 3; what++) {
            CheckKit.due("ahead " + what, x.ship(what), ahead[what]);
        }
        x.meals(1);
        for (int what = 0; what < 3; what++) {
            CheckKit.due("behind " + what, x.ship(what), behind[what]);
        }
        x.meals(1);
        CheckKit.due("all soup", x.ship(2), 0);
        x.meals(58);
        CheckKit.due("no less than none", x.ship(2), 0);

        SentenceKit.promise(7, "3 ahead of which MEAL the SHIP was first at BAHIA (0 up; NONE: it wasn't yet).");
        CheckKit.due("from the first on", CheckKit.told("sea 1 1;").ship(3), 0);
        x = CheckKit.told("sea 4 1;bahia 2 0;wind 1 1 3 1;");
        int[] first = {-1, -1, 2, 2, 2};
        for (int t = 0; t < first.length; t++) {
            CheckKit.due("meal " + t, x.ship(3), first[t]);
            x.meals(1);
        }
        for (int t = first.length - 1; t >= 0; t--) {
            x.undo();
            CheckKit.due("undone to meal " + t, x.ship(3), first[t]);
        }
        x = CheckKit.told("sea 4 1;ship 1 0;bahia 1 0;wind 1;");
        x.meals(60);
        CheckKit.due("0 though she has gone", x.ship(3), 0);
        x = CheckKit.told("sea 4 1;bahia 2 0;wind 3;gale 58 1 1;gale 59 1 1;");
        x.meals(59);
        CheckKit.due("not yet", x.ship(3), -1);
        x.meals(1);
        CheckKit.due("behind the last", x.ship(3), 60);

        SentenceKit.promise(7, "NONE for another what.");
        CheckKit.due("what 4", x.ship(4), -1);
        CheckKit.due("what -1", x.ship(-1), -1);
        for (int what : WILD) {
            CheckKit.due("what " + what, x.ship(what), -1);
        }
    }

    private static void farAndLand() {
        PlateVote x = CheckKit.told("sea 3 2;land 1 0;land 1 1;");
        SentenceKit.promise(8, "FAR of two CELLS (99: none; from LAND, too);");
        CheckKit.due("no way", x.far(0, 2), 99);
        CheckKit.due("to land", x.far(0, 1), 99);
        CheckKit.due("from land", x.far(1, 0), 99);
        CheckKit.due("from land to land", x.far(1, 4), 99);
        CheckKit.due("from land to itself", x.far(1, 1), 99);
        CheckKit.due("down", x.far(0, 3), 1);
        CheckKit.due("the last cell", x.far(5, 2), 1);

        SentenceKit.promise(8, "NONE: no such CELLS.");
        CheckKit.due("behind the last", x.far(6, 0), -1);
        CheckKit.due("behind the last", x.far(0, 6), -1);
        CheckKit.due("below", x.far(-1, 0), -1);
        CheckKit.due("below", x.far(0, -1), -1);
        CheckKit.due("land and none", x.far(1, 6), -1);
        for (int cell : WILD) {
            CheckKit.due("cell " + cell, x.far(cell, 0), -1);
            CheckKit.due("cell " + cell, x.far(0, cell), -1);
            CheckKit.due("cell " + cell, x.far(cell, cell), -1);
        }
        CheckKit.due("64 of a full sea", CheckKit.told("sea 8 8;").far(0, 64), -1);
        CheckKit.due("63 of a full sea", CheckKit.told("sea 8 8;").far(0, 63), 14);

        SentenceKit.promise(9, "Whether a CELL is LAND (1, 0);");
        int[] land = {0, 1, 0, 0, 1, 0};
        for (int cell = 0; cell < 6; cell++) {
            CheckKit.due("cell " + cell, x.land(cell), land[cell]);
        }
        CheckKit.due("the last of a full sea", CheckKit.told("sea 8 8;land 7 7;").land(63), 1);
        CheckKit.due("the first of a full sea", CheckKit.told("sea 8 8;land 7 7;").land(0), 0);

        SentenceKit.promise(9, "NONE: no such CELL.");
        CheckKit.due("behind the last", x.land(6), -1);
        CheckKit.due("below", x.land(-1), -1);
        CheckKit.due("behind a full sea", CheckKit.told("sea 8 8;land 0 0;").land(64), -1);
        for (int cell : WILD) {
            CheckKit.due("cell " + cell, x.land(cell), -1);
        }
    }

    private static void wish() {
        SentenceKit.promise(10, "The COURSE for which one would vote at the MEAL that is next as it is now;");
        PlateVote x = CheckKit.told("sea 5 5;ship 2 2;soup 12;mouth a 3 course=meal;mouth b 3 course=plates;mouth c 3 course=stock-9;may d 2 odds 1 course=2;");
        CheckKit.due("a, meal 0", x.wish(0), 0);
        CheckKit.due("b", x.wish(1), 3);
        CheckKit.due("c", x.wish(2), 3);
        x.truth(1);
        CheckKit.due("d", x.wish(3), 2);
        x.meals(1);
        // Twelve less three, three, three and two: a has the last plate.
        CheckKit.due("a, meal 1", x.wish(0), 1);
        CheckKit.due("b has none", x.wish(1), -2);
        x.fed(2);
        CheckKit.due("b has it if a isn't fed", x.wish(1), 1);
        CheckKit.due("it changed nothing", x.ship(2), 1);

        SentenceKit.promise(10, "-2: he wouldn't vote (no plates, not ABOARD);");
        x = CheckKit.told("soup 3;mouth a 0 1;mouth b 3 1;mouth c 1 1;mouth d 1 from 1 1;mouth e 1 till 0 sick 0 0 1;may f 1 odds 1 1;");
        int[] want = {-2, 1, -2, -2, -2, -2};
        for (int i = 0; i < want.length; i++) {
            CheckKit.due("number " + i, x.wish(i), want[i]);
        }
        x.fed(0);
        CheckKit.due("not fed", x.wish(1), -2);
        x.truth(1);
        CheckKit.due("the hidden one", x.wish(5), 1);
        x = CheckKit.told("gale 0 0 9;mouth a 1 loses 1 1;");
        x.meals(1);
        CheckKit.due("leapt", x.wish(0), -2);

        SentenceKit.promise(10, "NONE: no such one, no MEAL is next.");
        CheckKit.due("behind the last", x.wish(1), -1);
        CheckKit.due("below", x.wish(-1), -1);
        for (int wild : WILD) {
            CheckKit.due("number " + wild, x.wish(wild), -1);
        }
        x = CheckKit.told("sea 2 1;mouth a 1 1;mouth b 0 1;");
        x.meals(59);
        CheckKit.due("the last meal: back again", x.wish(0), 3);
        x.meals(1);
        CheckKit.due("no meal", x.wish(0), -1);
        CheckKit.due("no meal, no plates", x.wish(1), -1);
    }

    private static void law() {
        SentenceKit.promise(11, "E of one for a COURSE (LAND or not), likewise, with plates (0 .. 9).");
        PlateVote x = CheckKit.told("sea 3 3;ship 1 1;bahia 0 0;land 0 1;soup 50;wind 3;mouth a 1 sick 0 59 course+10*far+1000*windy+2000*meal+5*plates;"
                + "may b 2 odds 1 from 9 lost*100+stock;");
        long[] want = {0 + 10, 1 + 30, 2 + 30, 3 + 990 + 1000};
        for (int c = 0; c < 4; c++) {
            for (int plates = 0; plates <= 9; plates++) {
                CheckKit.due("course " + c + ", plates " + plates, x.law(0, c, plates), want[c] + 5 * plates);
            }
        }
        CheckKit.due("one who isn't aboard", x.law(1, 0, 3), 50);
        x.meals(1);
        CheckKit.due("at meal 1 she lies on", x.law(0, 1, 0), 1 + 30 + 2000);

        SentenceKit.promise(11, "Long.MIN_VALUE: an ERROR, no such ones, outside, no MEAL is next.");
        long none = Long.MIN_VALUE;
        CheckKit.due("plates 10", x.law(0, 0, 10), none);
        CheckKit.due("plates -1", x.law(0, 0, -1), none);
        CheckKit.due("course 4", x.law(0, 4, 1), none);
        CheckKit.due("course -1", x.law(0, -1, 1), none);
        CheckKit.due("number 2", x.law(2, 0, 1), none);
        CheckKit.due("number -1", x.law(-1, 0, 1), none);
        for (int wild : WILD) {
            CheckKit.due("number " + wild, x.law(wild, 0, 1), none);
            CheckKit.due("course " + wild, x.law(0, wild, 1), none);
            CheckKit.due("plates " + wild, x.law(0, 0, wild), none);
        }
        x = CheckKit.told("sea 1 1;mouth a 1 5;");
        for (int c = 0; c < 4; c++) {
            CheckKit.due("outside " + c, x.law(0, c, 1), none);
        }
        x = CheckKit.told("mouth a 1 1/plates;");
        CheckKit.due("an error", x.law(0, 1, 0), none);
        CheckKit.due("none", x.law(0, 1, 1), 1);
        x.meals(59);
        CheckKit.due("the last meal", x.law(0, 2, 1), 1);
        x.meals(1);
        for (int c = 0; c < 4; c++) {
            CheckKit.due("no meal", x.law(0, c, 1), none);
        }
    }

    private static void votes() {
        SentenceKit.promise(12, "Votes for a COURSE at the MEAL that is next as it is now (no STORM);");
        PlateVote x = CheckKit.told("sea 3 3;ship 1 1;seed 1;storm 99 99;gale 0 3 5;isle i 1 0 1 2;mouth a 3 course=1;mouth b 2 course=0;may c 4 odds 5 course=0;");
        int[] want = {4, 3, 0, 5};
        for (int c = 0; c < 4; c++) {
            CheckKit.due("course " + c, x.votes(c), want[c]);
            CheckKit.due("again", x.votes(c), want[c]);
        }
        x.truth(1);
        CheckKit.due("with the hidden one", x.votes(0), 8);
        x.fed(0);
        CheckKit.due("nobody else fed", x.votes(1), 0);
        CheckKit.due("nobody else fed", x.votes(0), 6);
        x.meals(1);
        CheckKit.due("the storm came as its numbers have it", x.log(0, 3), 2);

        SentenceKit.promise(12, "NONE: no such COURSE, no MEAL is next.");
        CheckKit.due("course 4", x.votes(4), -1);
        CheckKit.due("course -1", x.votes(-1), -1);
        for (int wild : WILD) {
            CheckKit.due("course " + wild, x.votes(wild), -1);
        }
        x.meals(58);
        CheckKit.due("the last meal", x.votes(3) >= 0, true);
        x.meals(1);
        for (int c = 0; c < 4; c++) {
            CheckKit.due("no meal", x.votes(c), -1);
        }
    }

    private static void fed() {
        SentenceKit.promise(13, "Whom to FEED from now on (bits of MOUTHS without MAY): true;");
        PlateVote x = CheckKit.told("mouth a 1 1;mouth b 2 1;mouth c 4 1;mouth d 8 1;mouth e 9 1;may f 1 odds 1 1;");
        int[] plates = {1, 2, 4, 8, 9};
        for (int bits = 0; bits < 32; bits++) {
            CheckKit.due("fed " + bits, x.fed(bits), true);
            int sum = 0;
            for (int i = 0; i < 5; i++) {
                sum += (bits >> i & 1) == 1 ? plates[i] : 0;
                CheckKit.due("fed " + bits + ", number " + i, x.look(i, 4), bits >> i & 1);
            }
            x.meals(1);
            CheckKit.due("eaten with " + bits, x.log(0, 1), sum);
            x.undo();
        }
        x.fed(1);
        x.meals(2);
        CheckKit.due("from now on", x.log(1, 1), 1);

        SentenceKit.promise(13, "false: no such ones.");
        CheckKit.due("fed 32", x.fed(32), false);
        CheckKit.due("fed 33", x.fed(33), false);
        CheckKit.due("fed -1", x.fed(-1), false);
        for (int wild : WILD) {
            CheckKit.due("fed " + wild, x.fed(wild), false);
        }
        CheckKit.due("as it was", x.look(0, 4), 1);
        CheckKit.due("as it was", x.look(1, 4), 0);
        CheckKit.due("two of two", CheckKit.told("mouth a 1 1;mouth b 1 1;").fed(3), true);
        CheckKit.due("the third of two", CheckKit.told("mouth a 1 1;mouth b 1 1;may c 1 odds 1 1;").fed(4), false);
        CheckKit.due("at the end, too", x.meals(58) == 60 && x.fed(3), true);
    }

    private static void truth() {
        SentenceKit.promise(14, "Which MAY are ABOARD from now on (bits): true;");
        PlateVote x = CheckKit.told("mouth e 0 1;may a 1 odds 1 1;may b 2 odds 1 1;may c 4 odds 1 1;may d 8 odds 1 1;");
        for (int bits = 0; bits < 16; bits++) {
            CheckKit.due("truth " + bits, x.truth(bits), true);
            for (int i = 0; i < 4; i++) {
                CheckKit.due("truth " + bits + ", number " + (i + 1), x.look(i + 1, 0), bits >> i & 1);
            }
            CheckKit.due("aboard", x.count(10), 1 + Integer.bitCount(bits));
            x.meals(1);
            CheckKit.due("eaten with " + bits, x.log(0, 1), bits);
            x.undo();
        }
        x.truth(5);
        x.meals(2);
        CheckKit.due("from now on", x.log(1, 1), 5);

        SentenceKit.promise(14, "false: no such ones.");
        CheckKit.due("truth 16", x.truth(16), false);
        CheckKit.due("truth -1", x.truth(-1), false);
        for (int wild : WILD) {
            CheckKit.due("truth " + wild, x.truth(wild), false);
        }
        CheckKit.due("as it was", x.count(10), 3);
        CheckKit.due("none of none", CheckKit.told("mouth a 1 1;").truth(1), false);
        CheckKit.due("one of one", CheckKit.told("may a 1 odds 1 1;").truth(1), true);
        CheckKit.due("two of one", CheckKit.told("may a 1 odds 1 1;").truth(2), false);
    }

    private static void meals() {
        SentenceKit.promise(15, "So many MEALS (0 .. 60) more: which one is next (60: none);");
        for (int n = 0; n <= 60; n++) {
            PlateVote x = CheckKit.told("wind 1 2;soup 999;mouth a 1 1;");
            CheckKit.due("meals " + n, x.meals(n), n);
            CheckKit.due("eaten by " + n, x.ship(2), 999 - n);
            CheckKit.due("and the rest", x.meals(60 - n), 60);
            CheckKit.due("none more", x.meals(0), 60);
        }

        SentenceKit.promise(15, "NONE, and none is: no such number, behind 59.");
        PlateVote x = CheckKit.told("mouth a 1 1;");
        CheckKit.due("61", x.meals(61), -1);
        CheckKit.due("-1", x.meals(-1), -1);
        for (int wild : WILD) {
            CheckKit.due("n " + wild, x.meals(wild), -1);
        }
        CheckKit.due("none was", x.count(6) + x.count(9), 0);
        CheckKit.due("nothing eaten", x.ship(2), 100);
        x.meals(1);
        CheckKit.due("sixty behind one", x.meals(60), -1);
        CheckKit.due("none was", x.count(6), 1);
        x.meals(58);
        CheckKit.due("two behind 59", x.meals(2), -1);
        CheckKit.due("none was", x.count(6), 59);
        CheckKit.due("soup", x.ship(2), 41);
        CheckKit.due("the last", x.meals(1), 60);
        CheckKit.due("behind it", x.meals(1), -1);
        CheckKit.due("behind it", x.meals(60), -1);
        CheckKit.due("below", x.meals(-1), -1);
        CheckKit.due("none was", x.ship(2), 40);
    }

    private static void log() {
        SentenceKit.promise(16, "Of a MEAL gone by, what 0 the COURSE TAKEN, 1 plates eaten, 2 the CELL where the SHIP came,");
        PlateVote x = CheckKit.told("sea 3 3;ship 1 1;wind 2;soup 5;mouth a 2 course=meal;mouth b 1 from 1 course=meal;");
        x.meals(60);
        int[][] want = {{0, 2, 1}, {1, 3, 2}, {2, 0, 5}, {2, 0, 8}, {2, 0, 8}};
        for (int t = 0; t < 60; t++) {
            for (int what = 0; what < 3; what++) {
                CheckKit.due("meal " + t + " what " + what, x.log(t, what), want[Math.min(t, 4)][what]);
            }
        }

        SentenceKit.promise(16, "3 the STORM's COURSE (NONE: none).");
        CheckKit.due("no storm", x.log(0, 3), -1);
        // 38 and course 2; 13 and course 3; 51, not below 50.
        x = CheckKit.told("seed 1;storm 50 1;mouth a 9 1;");
        x.meals(3);
        CheckKit.due("meal 0", x.log(0, 3), 2);
        CheckKit.due("meal 1", x.log(1, 3), 3);
        CheckKit.due("meal 2", x.log(2, 3), -1);

        SentenceKit.promise(16, "NONE: no such ones.");
        for (int what = -1; what < 5; what++) {
            CheckKit.due("the next", x.log(3, what), -1);
            CheckKit.due("below", x.log(-1, what), -1);
            CheckKit.due("far ahead", x.log(60, what), -1);
            for (int wild : WILD) {
                CheckKit.due("meal " + wild, x.log(wild, what), -1);
            }
        }
        CheckKit.due("what 4", x.log(0, 4), -1);
        CheckKit.due("what -1", x.log(0, -1), -1);
        for (int wild : WILD) {
            CheckKit.due("what " + wild, x.log(0, wild), -1);
        }
        x.undo();
        CheckKit.due("undone", x.log(2, 0), -1);
        CheckKit.due("not undone", x.log(1, 0), 1);
        x.meals(58);
        CheckKit.due("all but 60", x.log(60, 0), -1);
        CheckKit.due("the last", x.log(59, 0) >= 0, true);
    }
}
