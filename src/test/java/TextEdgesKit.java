/** The edges of the Terms' first part: what a TEXT is, what its numbers may be, what its FAULTS are. */
final class TextEdgesKit {
    private static final String[] LANGUAGE = ("sea land ship bahia isle wind gale storm soup seed mouth may odds from till "
            + "sick loses or and not course far windy meal plates lost stock").split(" ");

    private TextEdgesKit() {
    }

    static void run() {
        text();
        lines();
        rest();
        words();
        numbersAndBlanks();
        joined();
        compared();
        summed();
        parts();
        signs();
        sea();
        cells();
        land();
        shipAndIsles();
        onLand();
        winds();
        gales();
        stores();
        crew();
        stay();
        sickAndLoses();
        names();
        firstFault();
        noTokens();
        tooMuch();
        knots();
        told();
        seaBehind();
        oneOnLand();
    }

    private static long law(String e) {
        return CheckKit.told("sea 3 3;ship 1 1;mouth a 1 " + e + ";").law(0, 1, 7);
    }

    private static void value(String e, long want) {
        CheckKit.due(e, law(e), want);
    }

    private static void text() {
        SentenceKit.terms("A TEXT: { LINE ';' }.");
        CheckKit.fine("", 0);
        CheckKit.fine("soup 1;", 1);
        CheckKit.fine("soup 1;seed 2;land 1 1;land 2 2;", 4);
        CheckKit.faultAt("soup 1|", 1);
        CheckKit.faultAt("|;", 1);
        CheckKit.faultAt("soup 1;|;", 1);
        CheckKit.faultAt("soup 1 |seed 2;", 1);
    }

    private static void lines() {
        SentenceKit.terms("LINE: sea N N | land N N | ship N N | bahia N N | isle W N N N N | wind N { N } | gale N N N | storm N N "
                + "| soup N | seed N | mouth W N REST E | may W N odds N REST E.");
        String[] two = {"sea", "land", "ship", "bahia", "storm"};
        for (String word : two) {
            CheckKit.fine(word + " 1 1;", 1);
            CheckKit.faultAt(word + "|;", 1);
            CheckKit.faultAt(word + " 1|;", 1);
            CheckKit.faultAt(word + " 1 1 |1;", 1);
            CheckKit.faultAt(word + " |a 1;", 1);
            CheckKit.faultAt(word + " 1 |a;", 1);
        }
        for (String word : new String[] {"soup", "seed"}) {
            CheckKit.fine(word + " 1;", 1);
            CheckKit.faultAt(word + "|;", 1);
            CheckKit.faultAt(word + " 1 |1;", 1);
        }
        CheckKit.fine("isle a 1 1 1 1;", 1);
        CheckKit.faultAt("isle |;", 1);
        CheckKit.faultAt("isle a 1 1 1|;", 1);
        CheckKit.faultAt("isle a 1 1 1 1 |1;", 1);
        CheckKit.faultAt("isle |1 1 1 1;", 1);
        CheckKit.fine("wind 1;", 1);
        CheckKit.fine("wind 1 1;", 1);
        CheckKit.faultAt("wind|;", 1);
        CheckKit.faultAt("wind 1 |a;", 1);
        CheckKit.fine("gale 1 1 1;", 1);
        CheckKit.faultAt("gale 1 1|;", 1);
        CheckKit.faultAt("gale 1 1 1 |1;", 1);
        CheckKit.fine("mouth a 1 1;", 1);
        CheckKit.faultAt("mouth |1 1;", 1);
        CheckKit.faultAt("mouth a |;", 1);
        CheckKit.faultAt("mouth a 1|;", 1);
        CheckKit.faultAt("mouth a 1 1 |1;", 1);
        CheckKit.faultAt("mouth a 1 |odds 1 1;", 1);
        CheckKit.fine("may a 1 odds 1 1;", 1);
        CheckKit.faultAt("may a 1 |1;", 1);
        CheckKit.faultAt("may a 1 odds |;", 1);
        CheckKit.faultAt("may a 1 odds 1|;", 1);
        CheckKit.faultAt("may a 1 |from 1 odds 1 1;", 1);
        for (String word : LANGUAGE) {
            boolean begins = " sea land ship bahia isle wind gale storm soup seed mouth may ".contains(" " + word + " ");
            CheckKit.fault(word, 1, begins ? word.length() : 0);
        }
        CheckKit.faultAt("|a 1;", 1);
        CheckKit.faultAt("|1;", 1);
    }

    private static void rest() {
        SentenceKit.terms("REST: { from N | till N | sick N N | loses N }.");
        CheckKit.fine("mouth a 1 1;", 1);
        CheckKit.fine("mouth a 1 from 1 till 2 sick 3 4 loses 5 6;", 1);
        CheckKit.fine("mouth a 1 loses 5 sick 3 4 till 2 from 1 6;", 1);
        CheckKit.fine("may a 1 odds 1 sick 3 4 from 1 6;", 1);
        CheckKit.due("from 1, E 2", CheckKit.told("ship 1 1;mouth a 1 from 1 2;").law(0, 0, 0), 2);
        CheckKit.faultAt("mouth a 1 from 1|;", 1);
        CheckKit.faultAt("mouth a 1 till |far;", 1);
        CheckKit.faultAt("mouth a 1 sick 1 2|;", 1);
        CheckKit.faultAt("mouth a 1 sick 1 |(2);", 1);
        CheckKit.faultAt("mouth a 1 loses |;", 1);
        CheckKit.faultAt("mouth a 1 1 |loses 2;", 1);
    }

    private static void words() {
        SentenceKit.terms("Words: small letters in a row;");
        CheckKit.faultAt("|Soup 1;", 1);
        CheckKit.faultAt("|SOUP 1;", 1);
        CheckKit.faultAt("|so up 1;", 1);
        CheckKit.faultAt("|soupseed 1;", 1);
        CheckKit.faultAt("|soups 1;", 1);
        CheckKit.faultAt("|sou;", 1);
        CheckKit.fine("soup1;seed1;", 2);
        CheckKit.fine("mouth a1far;", 1);
        CheckKit.fine("mouth a 1from1till1sick1 1loses1not(1)and(2)or(3);", 1);

        SentenceKit.terms("W: one of 1 .. 6 letters, none of those of the language;");
        CheckKit.fine("mouth a 1 1;mouth bcdefg 1 1;may h 1 odds 1 1;may ijklmn 1 odds 1 1;isle a 1 1 1 1;isle xyzxyz 1 1 1 1;", 6);
        CheckKit.faultAt("mouth |abcdefg 1 1;", 1);
        CheckKit.faultAt("may |abcdefg 1 odds 1 1;", 1);
        CheckKit.faultAt("isle |abcdefg 1 1 1 1;", 1);
        CheckKit.faultAt("mouth |1 1;", 1);
        for (String word : LANGUAGE) {
            CheckKit.faultAt("mouth |" + word + " 1 1;", 1);
            CheckKit.faultAt("may |" + word + " 1 odds 1 1;", 1);
            CheckKit.faultAt("isle |" + word + " 1 1 1 1;", 1);
            if (word.length() < 6) {
                CheckKit.fine("mouth " + word + "x 1 1;isle x" + word + " 1 1 1 1;", 2);
            }
        }
    }

    private static void numbersAndBlanks() {
        SentenceKit.terms("N: digits.");
        CheckKit.due("with noughts ahead", CheckKit.told("soup 007;").ship(2), 7);
        CheckKit.due("with many", CheckKit.told("soup 0000000000000000000000000000009;").ship(2), 9);
        CheckKit.due("all ten", CheckKit.told("soup 9876;").ship(2), 9876);
        CheckKit.due("all ten", CheckKit.told("soup 5432;").ship(2), 5432);
        CheckKit.due("all ten", CheckKit.told("soup 10;").ship(2), 10);
        CheckKit.faultAt("soup |-7;", 1);
        CheckKit.faultAt("soup |+7;", 1);
        CheckKit.faultAt("soup 7|.5;", 1);
        CheckKit.faultAt("soup 0|x1;", 1);
        CheckKit.faultAt("soup 1 |2;", 1);
        CheckKit.faultAt("soup |4294967297;", 2);
        CheckKit.faultAt("soup |18446744073709551617;", 2);
        CheckKit.faultAt("soup |99999999999999999999999999999999999999999;", 2);

        SentenceKit.terms("Blanks 10, 32.");
        CheckKit.fine("\n \n", 0);
        CheckKit.fine("  soup\n\n5 \n;\n ", 1);
        for (int c = 0; c < 256; c++) {
            boolean isLetter = c >= 'a' && c <= 'z';
            boolean isFine = c == 10 || c == 32 || c >= '0' && c <= '9';
            CheckKit.fault("soup" + (char) c + "5;", isFine ? 0 : 1, isFine ? -1 : isLetter ? 0 : 4);
        }
    }

    private static void joined() {
        SentenceKit.terms("E: A { or A }.");
        value("0 or 0 or 0 or 3", 1);
        value("1 or 0 and 0", 1);
        value("0 and 0 or 1", 1);
        CheckKit.faultAt("mouth a 1 |or 1;", 1);
        CheckKit.faultAt("mouth a 1 1 or|;", 1);
        CheckKit.faultAt("mouth a 1 1 or |or 1;", 1);
        CheckKit.faultAt("mouth a 1 1 or |and 1;", 1);

        SentenceKit.terms("A: B { and B }.");
        value("1 and 1 and 1 and 0", 0);
        value("1 and not 0 and 1", 1);
        CheckKit.faultAt("mouth a 1 |and 1;", 1);
        CheckKit.faultAt("mouth a 1 1 and|;", 1);
        CheckKit.faultAt("mouth a 1 1 and |and 1;", 1);

        SentenceKit.terms("B: not B | C.");
        value("not 0", 1);
        value("not not not 0", 1);
        value("not 1<2", 0);
        value("not 0 and 0", 0);
        value("not 1 or 1", 1);
        value("1 and not 0", 1);
        value("0 or not 0", 1);
        value("not not 2+3", 1);
        CheckKit.faultAt("mouth a 1 not|;", 1);
        CheckKit.faultAt("mouth a 1 1 |not 1;", 1);
        CheckKit.faultAt("mouth a 1 1=|not 1;", 1);
        CheckKit.faultAt("mouth a 1 1+|not 1;", 1);
        CheckKit.faultAt("mouth a 1 1*|not 1;", 1);
        CheckKit.faultAt("mouth a 1 not 1<|not 1;", 1);
        CheckKit.faultAt("mouth a 1 (1+|not 1);", 1);
        CheckKit.fine("mouth a 1 1*(not 1);", 1);
    }

    private static void compared() {
        SentenceKit.terms("C: S [ ( < | <= | = | <> | >= | > ) S ].");
        String[] signs = {"<", "<=", "=", "<>", ">=", ">"};
        String[] holds = {"100", "110", "010", "101", "011", "001"};
        for (int k = 0; k < signs.length; k++) {
            value("4" + signs[k] + "5", holds[k].charAt(0) - '0');
            value("5" + signs[k] + "5", holds[k].charAt(1) - '0');
            value("6" + signs[k] + "5", holds[k].charAt(2) - '0');
            value("2+2" + signs[k] + "5", holds[k].charAt(0) - '0');
            value("6" + signs[k] + "2+3", holds[k].charAt(2) - '0');
            CheckKit.faultAt("mouth a 1 1" + signs[k] + "|;", 1);
            CheckKit.faultAt("mouth a 1 |" + signs[k] + "1;", 1);
            for (String other : signs) {
                CheckKit.faultAt("mouth a 1 1" + signs[k] + "2|" + other + "3;", 1);
                CheckKit.fine("mouth a 1 1" + signs[k] + "2 and 3" + other + "4;mouth b 1 (1" + signs[k] + "2)" + other + "3;", 2);
            }
        }
        CheckKit.faultAt("mouth a 1 1<2+3|<4;", 1);
        CheckKit.faultAt("mouth a 1 not 1<2|<4;", 1);
    }

    private static void summed() {
        SentenceKit.terms("S: T { ( + | - ) T }.");
        value("1+2+3", 6);
        value("10-3-2", 5);
        value("10-3+2", 9);
        value("1+2*3", 7);
        value("2*3+4", 10);
        CheckKit.faultAt("mouth a 1 |-1;", 1);
        CheckKit.faultAt("mouth a 1 |+1;", 1);
        CheckKit.faultAt("mouth a 1 1+|;", 1);
        CheckKit.faultAt("mouth a 1 1-|-1;", 1);
        CheckKit.faultAt("mouth a 1 (|-1);", 1);

        SentenceKit.terms("T: P { ( * | / ) P }.");
        value("2*3*4", 24);
        value("100/7/2", 7);
        value("7/2*2", 6);
        value("2*7/4", 3);
        CheckKit.faultAt("mouth a 1 |*1;", 1);
        CheckKit.faultAt("mouth a 1 1*|;", 1);
        CheckKit.faultAt("mouth a 1 1*|-1;", 1);
        CheckKit.faultAt("mouth a 1 1/|/1;", 1);
    }

    private static void parts() {
        SentenceKit.terms("P: N | NAME | '(' E ')';");
        value("(5)", 5);
        value("((5))", 5);
        value("(0 or 2)+3", 4);
        value("2*(3+4)", 14);
        CheckKit.faultAt("mouth a 1 (|);", 1);
        CheckKit.faultAt("mouth a 1 (1|;", 1);
        CheckKit.faultAt("mouth a 1 (1|", 1);
        CheckKit.faultAt("mouth a 1 (|", 1);
        CheckKit.faultAt("mouth a 1 1|);", 1);
        CheckKit.faultAt("mouth a 1 (1)|);", 1);
        CheckKit.faultAt("mouth a 1 ((1)|;", 1);
        CheckKit.faultAt("mouth a 1 |);", 1);
        CheckKit.faultAt("mouth a 1 (1)|(1);", 1);
        CheckKit.faultAt("mouth a 1 1|(1);", 1);
        CheckKit.faultAt("mouth a 1 (1)|1;", 1);
        CheckKit.faultAt("mouth a 1 (1) |far;", 1);
        CheckKit.faultAt("mouth a 1 (1 |1);", 1);
        for (String name : "course far windy meal plates lost stock".split(" ")) {
            CheckKit.faultAt("mouth a 1 1 |" + name + ";", 1);
            CheckKit.faultAt("mouth a 1 1 |" + name + " 1;", 1);
            CheckKit.faultAt("mouth a 1 " + name + " |1;", 1);
            CheckKit.faultAt("mouth a 1 (" + name + " |" + name + ");", 1);
        }

        SentenceKit.terms("N of E 0 .. 9999.");
        value("0", 0);
        value("9999", 9999);
        CheckKit.faultAt("mouth a 1 |10000;", 2);
        CheckKit.faultAt("mouth a 1 1+(|10000);", 2);

        SentenceKit.terms("NAME: course far windy meal plates lost stock.");
        PlateVote x = CheckKit.told("sea 3 3;ship 1 1;soup 77;wind 1;mouth a 1 course;mouth b 1 far;mouth c 1 windy;mouth d 1 meal;"
                + "mouth e 1 plates;may f 1 odds 1 lost;may g 1 odds 1 stock;");
        long[] want = {1, 3, 1, 0, 7, 0, 77};
        for (int i = 0; i < want.length; i++) {
            CheckKit.due("name " + i, x.law(i, 1, 7), want[i]);
        }
        for (String word : LANGUAGE) {
            boolean isName = " course far windy meal plates lost stock ".contains(" " + word + " ");
            boolean goesOn = " from till sick loses not ".contains(" " + word + " ");
            CheckKit.fault("mouth a 1 " + word + ";", isName ? 0 : 1, isName ? -1 : goesOn ? 10 + word.length() : 10);
        }
        CheckKit.faultAt("mouth a 1 |a;", 1);
    }

    private static void signs() {
        SentenceKit.terms("A = (or > behind <) right behind < or > belongs to it.");
        value("5<=5", 1);
        value("5>=5", 1);
        value("5<>5", 0);
        CheckKit.due("one knot each", CheckKit.told("mouth a 1 5<=5 and 5>=5 or 5<>5;").count(5), 11);
        CheckKit.faultAt("mouth a 1 5< |=5;", 1);
        CheckKit.faultAt("mouth a 1 5> |=5;", 1);
        CheckKit.faultAt("mouth a 1 5< |>5;", 1);
        CheckKit.faultAt("mouth a 1 5<\n|=5;", 1);
        CheckKit.faultAt("mouth a 1 5>|<5;", 1);
        CheckKit.faultAt("mouth a 1 5>|>5;", 1);
        CheckKit.faultAt("mouth a 1 5<|<5;", 1);
        CheckKit.faultAt("mouth a 1 5=|<5;", 1);
        CheckKit.faultAt("mouth a 1 5=|>5;", 1);
        CheckKit.faultAt("mouth a 1 5=|=5;", 1);
        CheckKit.faultAt("mouth a 1 5<>|=5;", 1);
        CheckKit.faultAt("mouth a 1 5<=|=5;", 1);
        CheckKit.faultAt("mouth a 1 5>=|=5;", 1);
        CheckKit.faultAt("mouth a 1 5<|", 1);
        CheckKit.faultAt("mouth a 1 5<=|", 1);
        // What is behind the first n bytes does not belong to it.
        PlateVote x = new PlateVote();
        CheckKit.feedAll(x, "mouth a 1 5<=5;");
        CheckKit.due("cut between", x.text(12), -1);
        CheckKit.due("cut between", x.fault(1), 12);
    }

    private static void sea() {
        SentenceKit.terms("sea: WIDE, HIGH 1 .. 8 (4 and 4 without), ahead of land, ship, bahia, isle;");
        for (int n = 0; n <= 10; n++) {
            boolean fits = n >= 1 && n <= 8;
            CheckKit.fault("sea " + n + " 3;", fits ? 0 : 2, fits ? -1 : 4);
            CheckKit.fault("sea 3 " + n + ";", fits ? 0 : 2, fits ? -1 : 6);
        }
        PlateVote x = CheckKit.told("sea 8 1;");
        CheckKit.due("wide", x.count(0), 8);
        CheckKit.due("high", x.count(1), 1);
        x = CheckKit.told("sea 1 8;");
        CheckKit.due("wide", x.count(0), 1);
        CheckKit.due("high", x.count(1), 8);
        x = CheckKit.told("soup 1;");
        CheckKit.due("wide without", x.count(0), 4);
        CheckKit.due("high without", x.count(1), 4);
        CheckKit.fine("soup 1;seed 1;wind 1;storm 1 1;gale 1 1 1;mouth a 1 1;may b 1 odds 1 1;sea 8 8;land 7 7;ship 6 7;bahia 7 6;"
                + "isle a 5 5 1 1;", 12);
    }

    private static void cells() {
        SentenceKit.terms("CELLS are x, y below these, numbered y times WIDE and x.");
        for (String word : new String[] {"land ", "ship ", "bahia ", "isle a "}) {
            String more = word.startsWith("isle") ? " 1 1;" : ";";
            CheckKit.fine("sea 3 2;" + word + "2 1" + more, 2);
            CheckKit.faultAt("sea 3 2;" + word + "|3 1" + more, 2);
            CheckKit.faultAt("sea 3 2;" + word + "2 |2" + more, 2);
            CheckKit.fine("sea 1 1;" + word + "0 0" + more, 2);
            CheckKit.faultAt("sea 1 1;" + word + "|1 0" + more, 2);
            CheckKit.faultAt("sea 1 1;" + word + "0 |1" + more, 2);
            CheckKit.fine("sea 8 8;" + word + "7 7" + more, 2);
            CheckKit.faultAt("sea 8 8;" + word + "|8 7" + more, 2);
            CheckKit.faultAt("sea 8 8;" + word + "7 |8" + more, 2);
            CheckKit.fine(word + "3 3" + more, 1);
            CheckKit.faultAt(word + "|4 3" + more, 2);
            CheckKit.faultAt(word + "3 |4" + more, 2);
        }
        PlateVote x = CheckKit.told("sea 3 5;ship 2 4;bahia 1 3;land 2 1;");
        CheckKit.due("ship", x.ship(0), 14);
        CheckKit.due("bahia", x.ship(1), 10);
        CheckKit.due("land", x.land(5), 1);
        CheckKit.due("the last", CheckKit.told("sea 8 8;ship 7 7;").ship(0), 63);
    }

    static String lands(int many) {
        StringBuilder text = new StringBuilder("sea 8 8;");
        for (int k = 0; k < many; k++) {
            text.append("land ").append(k % 8).append(' ').append(k / 8).append(';');
        }
        return text.toString();
    }

    private static void land() {
        SentenceKit.terms("LAND, at most 20 CELLS.");
        PlateVote x = CheckKit.told(lands(20));
        int all = 0;
        for (int cell = 0; cell < 64; cell++) {
            all += x.land(cell);
        }
        CheckKit.due("all of them", all, 20);
        CheckKit.due("the last", x.land(19), 1);
        CheckKit.due("behind it", x.land(20), 0);
        CheckKit.fault(lands(21), 2, lands(20).length());
    }

    private static void shipAndIsles() {
        SentenceKit.terms("SHIP, BAHIA: CELLS (0, 0 without).");
        PlateVote x = CheckKit.told("sea 3 3;ship 2 2;");
        CheckKit.due("the ship", x.ship(0), 8);
        CheckKit.due("bahia without", x.ship(1), 0);
        x = CheckKit.told("sea 3 3;bahia 2 2;");
        CheckKit.due("the ship without", x.ship(0), 0);
        CheckKit.due("bahia", x.ship(1), 8);
        CheckKit.fine("ship 1 1;bahia 1 1;", 2);

        SentenceKit.terms("ISLES, at most 3: a CELL, how far they reach 0 .. 9, GOATS 1 .. 9.");
        CheckKit.fine("isle a 1 1 0 1;isle b 1 1 9 9;isle c 1 1 1 1;", 3);
        CheckKit.faultAt("isle a 1 1 0 1;isle b 1 1 9 9;isle c 1 1 1 1;|isle d 1 1 1 1;", 2);
        CheckKit.faultAt("isle a 1 1 |10 1;", 2);
        CheckKit.faultAt("isle a 1 1 1 |0;", 2);
        CheckKit.faultAt("isle a 1 1 1 |10;", 2);
        x = CheckKit.told("sea 8 1;isle a 1 0 1 1;isle b 7 0 9 9;isle c 3 0 3 3;");
        CheckKit.due("all three bribe", x.votes(1), 13);
        CheckKit.due("three", x.count(4), 3);
    }

    private static void onLand() {
        SentenceKit.terms("None of these three on LAND told ahead, no LAND on one of them told ahead.");
        CheckKit.faultAt("land 1 1;ship 1 |1;", 5);
        CheckKit.faultAt("land 1 1;bahia 1 |1;", 5);
        CheckKit.faultAt("land 1 1;isle a 1 |1 1 1;", 5);
        CheckKit.faultAt("ship 1 1;land 1 |1;", 5);
        CheckKit.faultAt("bahia 1 1;land 1 |1;", 5);
        CheckKit.faultAt("isle a 1 1 1 1;land 1 |1;", 5);
        CheckKit.faultAt("isle a 1 1 1 1;isle b 2 1 1 1;isle c 3 1 1 1;land 3 |1;", 5);
        CheckKit.faultAt("ship 0 0;land 0 |0;", 5);
        CheckKit.faultAt("bahia 0 0;land 0 |0;", 5);
        // Neither is told ahead, nor told at all.
        CheckKit.fine("land 0 0;", 1);
        CheckKit.fine("ship 1 1;land 0 0;", 2);
        CheckKit.fine("bahia 1 1;land 0 0;", 2);
    }

    private static void winds() {
        SentenceKit.terms("COURSES: 0 up (y less 1), 1 right, 2 down, 3 left.");
        int[] to = {1, 5, 7, 3};
        for (int c = 0; c < 4; c++) {
            PlateVote x = CheckKit.told("sea 3 3;ship 1 1;wind " + c + ";");
            x.meals(1);
            CheckKit.due("course " + c, x.ship(0), to[c]);
        }
        CheckKit.faultAt("wind |4;", 2);
        CheckKit.faultAt("gale 0 |4 1;", 2);

        SentenceKit.terms("wind: 1 .. 8 COURSES by MEALS, then from the first again (0 without).");
        CheckKit.faultAt("wind |;", 1);
        CheckKit.fine("wind 1 2 3 0 1 2 3 0;", 1);
        CheckKit.faultAt("wind 1 2 3 0 1 2 3 0 |1;", 2);
        int[] winds = {2, 1, 3, 0, 1, 1, 2, 3};
        StringBuilder text = new StringBuilder("wind");
        for (int n = 1; n <= 8; n++) {
            text.append(' ').append(winds[n - 1]);
            PlateVote x = CheckKit.told(text + ";");
            x.meals(60);
            for (int t = 0; t < 60; t++) {
                CheckKit.due(n + " winds, meal " + t, x.log(t, 0), winds[t % n]);
            }
        }
        PlateVote x = CheckKit.told("ship 1 1;");
        x.meals(60);
        CheckKit.due("without, meal 0", x.log(0, 0), 0);
        CheckKit.due("without, meal 59", x.log(59, 0), 0);
    }

    private static void gales() {
        SentenceKit.terms("GALES, at most 4: a MEAL 0 .. 59, a COURSE, how many plates 1 .. 99.");
        String gales = "gale 0 1 1;gale 59 2 99;gale 59 2 99;gale 0 3 2;";
        CheckKit.fine(gales, 4);
        CheckKit.faultAt(gales + "|gale 1 1 1;", 2);
        CheckKit.faultAt("gale |60 1 1;", 2);
        CheckKit.faultAt("gale 1 |4 1;", 2);
        CheckKit.faultAt("gale 1 1 |0;", 2);
        CheckKit.faultAt("gale 1 1 |100;", 2);
        PlateVote x = CheckKit.told(gales);
        CheckKit.due("meal 0", x.votes(1), 1);
        CheckKit.due("meal 0", x.votes(3), 2);
        x.meals(58);
        CheckKit.due("not meal 58", x.votes(2), 0);
        x.meals(1);
        CheckKit.due("meal 59", x.votes(2), 198);
        CheckKit.due("not those of meal 0", x.votes(3), 0);
    }

    private static void stores() {
        SentenceKit.terms("storm: of a hundred 0 .. 99, how many plates 1 .. 99 (0 and 1 without).");
        CheckKit.fine("storm 0 1;", 1);
        CheckKit.fine("storm 99 99;", 1);
        CheckKit.faultAt("storm |100 1;", 2);
        CheckKit.faultAt("storm 1 |0;", 2);
        CheckKit.faultAt("storm 1 |100;", 2);
        for (String text : new String[] {"seed 1;", "seed 1;storm 0 99;"}) {
            PlateVote x = CheckKit.told(text);
            x.meals(60);
            for (int t = 0; t < 60; t++) {
                CheckKit.due("none at meal " + t, x.log(t, 3), -1);
            }
        }

        SentenceKit.terms("soup: 0 .. 9999 (100 without).");
        CheckKit.due("none", CheckKit.told("soup 0;").ship(2), 0);
        CheckKit.due("most", CheckKit.told("soup 9999;").ship(2), 9999);
        CheckKit.due("without", CheckKit.told("").ship(2), 100);
        CheckKit.faultAt("soup |10000;", 2);

        SentenceKit.terms("seed 0 .. 99999 (0).");
        CheckKit.fine("seed 0;", 1);
        CheckKit.fine("seed 99999;", 1);
        CheckKit.faultAt("seed |100000;", 2);
        PlateVote without = CheckKit.told("storm 60 1;");
        PlateVote nought = CheckKit.told("storm 60 1;seed 0;");
        PlateVote one = CheckKit.told("storm 60 1;seed 1;");
        int differ = 0;
        without.meals(60);
        nought.meals(60);
        one.meals(60);
        for (int t = 0; t < 60; t++) {
            CheckKit.due("as of seed 0 at meal " + t, without.log(t, 3), nought.log(t, 3));
            differ += one.log(t, 3) != nought.log(t, 3) ? 1 : 0;
        }
        CheckKit.due("not as of seed 1", differ > 0, true);
    }

    private static void crew() {
        SentenceKit.terms("MOUTHS, at most 5, MAY, at most 4 (MOUTHS behind all others, by numbers):");
        String mouths = "mouth a 1 1;mouth b 1 1;mouth c 1 1;mouth d 1 1;mouth e 1 1;";
        String mays = "may p 1 odds 1 1;may q 1 odds 1 1;may r 1 odds 1 1;may s 1 odds 1 1;";
        CheckKit.fine(mouths + mays, 9);
        CheckKit.fine(mays + mouths, 9);
        CheckKit.faultAt(mouths + "|mouth f 1 1;", 2);
        CheckKit.faultAt(mays + "|may t 1 odds 1 1;", 2);
        CheckKit.faultAt(mays + mouths + "|mouth f 1 1;", 2);
        CheckKit.faultAt(mouths + mays + "|may f 1 odds 1 1;", 2);
        for (String text : new String[] {mouths + mays, mays + mouths}) {
            PlateVote x = CheckKit.told(text);
            String order = "abcdepqrs";
            for (int i = 0; i < order.length(); i++) {
                CheckKit.due("number of " + order.charAt(i), x.named(1, CheckKit.letters(order.substring(i, i + 1))), i);
            }
        }
        PlateVote x = CheckKit.told("may p 4 odds 1 44;mouth a 1 11;may q 5 odds 1 55;mouth b 2 22;");
        int[] plates = {1, 2, 4, 5};
        for (int i = 0; i < plates.length; i++) {
            CheckKit.due("plates of number " + i, x.look(i, 1), plates[i]);
            CheckKit.due("law of number " + i, x.law(i, 1, 0), 11 * plates[i]);
        }

        SentenceKit.terms("plates 0 .. 9;");
        CheckKit.due("none", CheckKit.told("mouth a 0 1;").look(0, 1), 0);
        CheckKit.due("nine", CheckKit.told("mouth a 9 1;").look(0, 1), 9);
        CheckKit.due("nine of a may", CheckKit.told("may a 9 odds 1 1;").look(0, 1), 9);
        CheckKit.faultAt("mouth a |10 1;", 2);
        CheckKit.faultAt("may a |10 odds 1 1;", 2);
    }

    /** Whether one is aboard at each meal, as bits. */
    private static long aboard(String text) {
        PlateVote x = CheckKit.told(text);
        long bits = 0;
        for (int t = 0; t <= 60; t++) {
            bits |= (long) x.look(0, 0) << t;
            x.meals(1);
        }
        return bits;
    }

    private static void stay() {
        SentenceKit.terms("from the MEAL on 0 .. 59 (0; not above till),");
        CheckKit.due("from 0", aboard("mouth a 1 from 0 1;"), (1L << 60) - 1);
        CheckKit.due("without", aboard("mouth a 1 1;"), (1L << 60) - 1);
        CheckKit.due("from 7", aboard("mouth a 1 from 7 1;"), (1L << 60) - (1L << 7));
        CheckKit.due("from 59", aboard("mouth a 1 from 59 1;"), 1L << 59);
        CheckKit.faultAt("mouth a 1 from |60 1;", 2);
        CheckKit.fine("mouth a 1 till 5 from 5 1;", 1);
        CheckKit.faultAt("mouth a 1 till 5 from |6 1;", 2);
        CheckKit.faultAt("mouth a 1 till 5 from |60 1;", 2);
        CheckKit.faultAt("may a 1 odds 1 till 0 from |1 1;", 2);

        SentenceKit.terms("till it 0 .. 59 (59; not below from; whichever comes behind),");
        CheckKit.due("till 0", aboard("mouth a 1 till 0 1;"), 1);
        CheckKit.due("till 7", aboard("mouth a 1 till 7 1;"), (1L << 8) - 1);
        CheckKit.due("till 59", aboard("mouth a 1 till 59 1;"), (1L << 60) - 1);
        CheckKit.due("from 3 till 3", aboard("mouth a 1 from 3 till 3 1;"), 8);
        CheckKit.due("from 59 till 59", aboard("mouth a 1 till 59 from 59 1;"), 1L << 59);
        CheckKit.faultAt("mouth a 1 till |60 1;", 2);
        CheckKit.fine("mouth a 1 from 5 till 5 1;", 1);
        CheckKit.faultAt("mouth a 1 from 5 till |4 1;", 2);
        CheckKit.faultAt("mouth a 1 from 59 till |60 1;", 2);
        CheckKit.faultAt("mouth a 1 from 5 sick 1 1 till |4 1;", 2);
        // Another's from has nothing to do with it.
        CheckKit.fine("mouth a 1 from 5 1;mouth b 1 till 4 1;", 2);
    }

    /** Whether one has no plates at each meal, as bits. */
    private static long sick(String text) {
        PlateVote x = CheckKit.told(text);
        long bits = 0;
        for (int t = 0; t < 60; t++) {
            bits |= (x.look(0, 1) == 0 ? 1L : 0L) << t;
            x.meals(1);
        }
        return bits;
    }

    private static void sickAndLoses() {
        SentenceKit.terms("sick from a MEAL to one 0 .. 59 (not below it),");
        CheckKit.due("sick 0 0", sick("mouth a 1 sick 0 0 1;"), 1);
        CheckKit.due("sick 59 59", sick("mouth a 1 sick 59 59 1;"), 1L << 59);
        CheckKit.due("sick 0 59", sick("mouth a 1 sick 0 59 1;"), (1L << 60) - 1);
        CheckKit.due("sick 3 5", sick("mouth a 1 sick 3 5 1;"), 8 + 16 + 32);
        CheckKit.due("never", sick("mouth a 1 1;"), 0);
        CheckKit.due("never behind one who is", sick("mouth a 1 1;mouth b 1 sick 0 59 1;"), 0);
        CheckKit.faultAt("mouth a 1 sick |60 60 1;", 2);
        CheckKit.faultAt("mouth a 1 sick 5 |60 1;", 2);
        CheckKit.faultAt("mouth a 1 sick 5 |4 1;", 2);
        CheckKit.fine("mouth a 1 sick 5 5 1;", 1);

        SentenceKit.terms("loses: 1 .. 99 (99).");
        CheckKit.fine("mouth a 1 loses 1 1;mouth b 1 loses 99 1;", 2);
        CheckKit.faultAt("mouth a 1 loses |0 1;", 2);
        CheckKit.faultAt("mouth a 1 loses |100 1;", 2);
        // The first one's course is right and left by turns, the others' always up.
        PlateVote x = CheckKit.told("sea 8 8;ship 4 4;soup 999;mouth a 9 course=1+2*(meal-meal/2*2);mouth b 1 course=0;"
                + "mouth c 1 loses 1 course=0;mouth d 1 loses 60 course=0;");
        x.meals(1);
        CheckKit.due("once is enough", x.look(2, 3), 1);
        CheckKit.due("once is not", x.look(3, 3), 0);
        x.meals(58);
        CheckKit.due("59 are not enough for 60", x.look(3, 3), 0);
        x.meals(1);
        CheckKit.due("sixty in a row are too few without", x.look(1, 2), 60);
        CheckKit.due("he stays", x.look(1, 3), 0);
        CheckKit.due("but are enough for 60", x.look(3, 3), 1);

        SentenceKit.terms("odds 1 .. 99 of a hundred.");
        x = CheckKit.told("may a 1 odds 1 1;may b 1 odds 99 1;may c 1 odds 50 1;");
        int[][] want = {{1, 100}, {99, 100}, {1, 2}};
        for (int i = 0; i < 3; i++) {
            CheckKit.due("above of " + i, x.odds(i, 0), want[i][0]);
            CheckKit.due("below of " + i, x.odds(i, 1), want[i][1]);
        }
        CheckKit.faultAt("may a 1 odds |0 1;", 2);
        CheckKit.faultAt("may a 1 odds |100 1;", 2);
    }

    private static void names() {
        SentenceKit.terms("ISLES have names of their kind, MOUTHS and MAY together.");
        CheckKit.fine("isle a 1 1 1 1;mouth a 1 1;isle b 1 1 1 1;may b 1 odds 1 1;", 4);
        CheckKit.fine("mouth a 1 1;may b 1 odds 1 1;isle b 1 1 1 1;isle a 1 1 1 1;", 4);
        CheckKit.faultAt("mouth a 1 1;mouth |a 1 1;", 3);
        CheckKit.faultAt("mouth a 1 1;may |a 1 odds 1 1;", 3);
        CheckKit.faultAt("may a 1 odds 1 1;mouth |a 1 1;", 3);
        CheckKit.faultAt("may a 1 odds 1 1;may |a 1 odds 1 1;", 3);
        CheckKit.faultAt("isle a 1 1 1 1;isle |a 2 1 1 1;", 3);
        CheckKit.fine("mouth a 1 1;mouth aa 1 1;mouth aaaaaa 1 1;mouth b 1 1;mouth ab 1 1;", 5);
    }

    private static void firstFault() {
        SentenceKit.terms("FAULTS, the first along the text (of one place the least), with its place:");
        CheckKit.faultAt("soup |10000;sea 9 9;? land 1", 2);
        CheckKit.faultAt("sea 4 4;land 1 1;land 1 |1;ship 1 1;?", 3);
        CheckKit.faultAt("sea 4 4;land 1 1;ship 1 |1;land 1 1;soup 1;soup", 5);
        CheckKit.faultAt("soup 1;|soup 10000;", 3);
        CheckKit.faultAt("soup 1;|soup ?", 3);
        CheckKit.faultAt(lands(20) + "|land 9 9;", 2);
        CheckKit.faultAt("sea 4 4;land 1 1;|sea 9 9;", 3);
        CheckKit.faultAt("land 1 1;|sea 9 9;", 4);
        CheckKit.faultAt("mouth a 1 1;mouth |a 10 ?;", 3);
        CheckKit.faultAt("mouth a |10 ?;", 2);
        CheckKit.faultAt("mouth a 1 from 1 |from 60 1;", 3);
        CheckKit.faultAt("soup 1 |? soup 2;", 1);
    }

    private static void noTokens() {
        SentenceKit.terms("1 a TOKEN that is none (a word of more than 6 letters, too)");
        for (String sign : new String[] {"?", ".", ",", ":", "!", "&", "[", "]", "{", "%", "^", "_", "'", "\"", "\t", "\r", "A", "Z", "\u0000", "\u00e4", "\u00ff"}) {
            CheckKit.fault("soup 1;" + sign, 1, 7);
            CheckKit.fault("soup 1" + sign + ";", 1, 6);
            CheckKit.fault("mouth a 1 1" + sign + "1;", 1, 11);
            CheckKit.fault("mouth a 1 " + sign + "1;", 1, 10);
        }
        CheckKit.faultAt("|abcdefg;", 1);
        CheckKit.faultAt("soup |abcdefg;", 1);
        CheckKit.faultAt("mouth a 1 |plateses;", 1);
        CheckKit.faultAt("mouth a 1 1 |andandand 1;", 1);
        CheckKit.fine("mouth plate 1 plates;", 1);

        SentenceKit.terms("or can't stand there (the length, if more must come).");
        CheckKit.faultAt("soup |soup;", 1);
        CheckKit.faultAt("soup |;", 1);
        CheckKit.faultAt("soup 1 |(;", 1);
        CheckKit.faultAt("soup|", 1);
        CheckKit.faultAt("soup 1|", 1);
        CheckKit.faultAt("soup 1  |", 1);
        CheckKit.faultAt("soup \n|", 1);
        CheckKit.faultAt("mouth|", 1);
        CheckKit.faultAt("mouth a|", 1);
        CheckKit.faultAt("mouth a 1|", 1);
        CheckKit.faultAt("mouth a 1 from|", 1);
        CheckKit.faultAt("mouth a 1 sick 1|", 1);
        CheckKit.faultAt("mouth a 1 not|", 1);
        CheckKit.faultAt("mouth a 1 1|", 1);
        CheckKit.faultAt("mouth a 1 1 or|", 1);
        CheckKit.faultAt("may a 1|", 1);
        CheckKit.faultAt("may a 1 odds|", 1);
        CheckKit.faultAt("isle a 1 1 1|", 1);
        CheckKit.faultAt("wind 1|", 1);
        PlateVote x = new PlateVote();
        CheckKit.feedAll(x, "soup 5;");
        CheckKit.due("the length is that of the text, not of the tape", x.text(6), -1);
        CheckKit.due("the length is that of the text, not of the tape", x.fault(1), 6);
    }

    private static void tooMuch() {
        SentenceKit.terms("2 too much (at it): a number beyond what is said,");
        CheckKit.faultAt("sea |0 9;", 2);
        CheckKit.faultAt("gale 1 1 |999999999999999;", 2);
        CheckKit.faultAt("gale 1 1 |000100;", 2);
        CheckKit.faultAt("gale 1 1 |0000;", 2);
        CheckKit.fine("gale 1 1 00099;", 1);

        SentenceKit.terms("a 21st land and so on (at the word of the LINE),");
        CheckKit.fault(lands(20) + "land ?", 2, lands(20).length());
        CheckKit.fault(lands(20) + "land", 2, lands(20).length());
        CheckKit.fault(lands(20) + "land 0 0;", 2, lands(20).length());
        CheckKit.faultAt("isle a 1 1 1 1;isle b 1 1 1 1;isle c 1 1 1 1;|isle a;", 2);
        CheckKit.faultAt("gale 1 1 1;gale 1 1 1;gale 1 1 1;gale 1 1 1;|gale", 2);
        CheckKit.faultAt("mouth a 1 1;mouth b 1 1;mouth c 1 1;mouth d 1 1;mouth e 1 1;|mouth a;", 2);
        CheckKit.faultAt("may a 1 odds 1 1;may b 1 odds 1 1;may c 1 odds 1 1;may d 1 odds 1 1;|may a;", 2);

        SentenceKit.terms("a ninth '(' open,");
        CheckKit.fine("mouth a 1 ((((((((1))))))));", 1);
        CheckKit.faultAt("mouth a 1 ((((((((|(1)))))))));", 2);
        CheckKit.faultAt("mouth a 1 ((((((((|(", 2);
        CheckKit.faultAt("mouth a 1 (((((((1+(1)*(1)+(|(1)))))))));", 2);
        CheckKit.fine("mouth a 1 (((((((1+(1)*(1)+(1))))))));", 1);
        CheckKit.fine("mouth a 1 ((((((((1))))))))*((((((((1))))))));mouth b 1 ((((((((1))))))));", 2);
    }

    static String ones(int knots) {
        StringBuilder sum = new StringBuilder("1");
        for (int k = 1; k < knots; k += 2) {
            sum.append("+1");
        }
        return sum.toString();
    }

    private static void knots() {
        SentenceKit.terms("a 65th KNOT of all E (N, NAMES, signs, not, and, or: one each).");
        String most = "mouth a 1 " + ones(63);
        CheckKit.due("63", CheckKit.told(most + ";").count(5), 63);
        CheckKit.due("64", CheckKit.told(most + ";mouth b 1 far;").count(5), 64);
        CheckKit.faultAt(most + "+|1;", 2);
        CheckKit.faultAt(most + ";mouth b 1 1|<=1;", 2);
        CheckKit.faultAt(most + ";mouth b 1 1 |and 1;", 2);
        CheckKit.faultAt(most + ";mouth b 1 1 |or 1;", 2);
        CheckKit.faultAt(most + ";mouth b 1 not |far;", 2);
        CheckKit.faultAt(most + ";mouth b 1 not |not 1;", 2);
        CheckKit.faultAt(most + ";mouth b 1 1;may c 1 odds 1 |1;", 2);
        CheckKit.faultAt(most + ";mouth b 1 1;may c 1 odds 1 |far;", 2);
        CheckKit.faultAt(most + ";mouth b 1 1;may c 1 odds 1 |not 1;", 2);
        CheckKit.faultAt(most + ";mouth b 1 1;may c 1 odds 1 (((|1)));", 2);
        String nots = "not ".repeat(63);
        CheckKit.fine("mouth a 1 " + nots + "1;", 1);
        CheckKit.faultAt("mouth a 1 " + nots + "not |1;", 2);
        CheckKit.faultAt("mouth a 1 " + nots + "not |not 1;", 2);
        CheckKit.fine("mouth a 1 ((((((((" + nots + "1))))))));", 1);
        CheckKit.due("of 63 nots", CheckKit.told("sea 2 1;mouth a 1 ((((((((" + nots + "0))))))));").law(0, 1, 0), 1);
        CheckKit.fine("mouth a 1 " + "not (".repeat(8) + "not ".repeat(55) + "1))))))));", 1);
        // What can't stand there is the lesser fault; brackets are none.
        CheckKit.faultAt(most + ";mouth b 1 1 |not 1;", 1);
        CheckKit.faultAt(most + ";mouth b 1 1;may c 1 odds 1 |and 1;", 1);
        CheckKit.fine(most + ";mouth b 1 ((((1))));", 2);
        CheckKit.due("one each", CheckKit.told("mouth a 1 not (course+far*2<=windy and meal or plates<>1);").count(5), 14);
        PlateVote x = CheckKit.told("sea 2 1;" + most + ";mouth b 1 far;");
        CheckKit.due("the long one's value", x.law(0, 1, 0), 32);
        CheckKit.due("the last one's value", x.law(1, 1, 0), 1);
        CheckKit.due("not counted on", CheckKit.tell(x, most + ";"), 1);
        CheckKit.due("not counted on", x.count(5), 63);
    }

    private static void told() {
        SentenceKit.terms("3 told already: a name of its kind (at W),");
        CheckKit.faultAt("isle a 1 1 1 1;isle |a 1 1 1 1;", 3);
        CheckKit.faultAt("isle b 1 1 1 1;isle a 1 1 1 1;isle |b", 3);
        CheckKit.faultAt("may b 1 odds 1 1;mouth a 1 1;may |b", 3);
        CheckKit.faultAt("mouth abcdef 1 1;mouth |abcdef 1 1;", 3);

        SentenceKit.terms("sea, ship, bahia, wind, storm, soup, seed (at the word),");
        for (String line : new String[] {"sea 1 1;", "ship 1 1;", "bahia 1 1;", "wind 1;", "storm 1 1;", "soup 1;", "seed 1;"}) {
            CheckKit.fine(line, 1);
            CheckKit.faultAt(line + "|" + line, 3);
            CheckKit.faultAt(line + "gale 1 1 1;|" + line.substring(0, line.indexOf(' ')), 3);
        }

        SentenceKit.terms("a CELL of LAND (at y),");
        CheckKit.faultAt("land 1 2;land 1 |2;", 3);
        CheckKit.fine("land 1 2;land 2 1;", 2);
        CheckKit.faultAt("sea 8 8;land 7 7;land 0 0;land 7 |7;", 3);

        SentenceKit.terms("from, till, sick, loses of the same (at the word).");
        for (String part : new String[] {"from 1", "till 1", "sick 1 1", "loses 1"}) {
            CheckKit.faultAt("mouth a 1 " + part + " |" + part + " 1;", 3);
            CheckKit.faultAt("may a 1 odds 1 " + part + " |" + part + " 1;", 3);
            CheckKit.fine("mouth a 1 " + part + " 1;mouth b 1 " + part + " 1;", 2);
        }
        CheckKit.faultAt("mouth a 1 from 1 till 1 sick 1 1 loses 1 |from 1 1;", 3);
    }

    private static void seaBehind() {
        SentenceKit.terms("4 sea behind one of those with CELLS (at the word).");
        for (String line : new String[] {"land 1 1;", "ship 1 1;", "bahia 1 1;", "isle a 1 1 1 1;"}) {
            CheckKit.faultAt(line + "|sea 4 4;", 4);
            CheckKit.faultAt(line + "soup 1;|sea", 4);
        }
    }

    private static void oneOnLand() {
        SentenceKit.terms("5 one on LAND, LAND on one (at y).");
        CheckKit.faultAt("land 2 1;ship 2 |1;", 5);
        CheckKit.faultAt("land 2 1;isle a 2 |1;", 5);
        CheckKit.faultAt("bahia 2 1;land 2    |1;", 5);
        CheckKit.fine("land 2 1;ship 1 2;bahia 1 2;isle a 1 2 1 1;", 4);
    }
}
