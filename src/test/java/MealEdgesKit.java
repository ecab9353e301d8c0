import java.math.BigInteger;

/** The edges of the Terms' second part: FAR, who is ABOARD, who eats, who votes what, where the SHIP goes, E's values. */
final class MealEdgesKit {
    /** With it a ship between the shores goes right and left by turns, and up is always water. */
    private static final String TURNS = "course=1+2*(meal-meal/2*2)";

    private MealEdgesKit() {
    }

    static void run() {
        far();
        aboard();
        plates();
        fullCrew();
        soup();
        greatest();
        whoVotes();
        isles();
        gales();
        storm();
        taken();
        lost();
        numbers();
        names();
        values();
        errors();
    }

    private static void far() {
        SentenceKit.terms("FAR of two CELLS: the fewest steps by CELLS that aren't LAND (99: none).");
        StringBuilder maze = new StringBuilder("sea 8 8;");
        for (int k = 0; k < 7; k++) {
            maze.append("land ").append(k).append(" 1;land ").append(k + 1).append(" 3;");
            maze.append(k < 6 ? "land " + k + " 5;" : "");
        }
        PlateVote x = CheckKit.told(maze.toString());
        CheckKit.due("through the maze", x.far(0, 56), 33);
        CheckKit.due("and back", x.far(56, 0), 33);
        x = CheckKit.told("sea 3 3;");
        CheckKit.due("itself", x.far(4, 4), 0);
        CheckKit.due("beside", x.far(4, 5), 1);
        CheckKit.due("not round the edge", x.far(2, 3), 3);
        CheckKit.due("not over the edge", x.far(0, 6), 2);
        x = CheckKit.told("sea 8 1;");
        CheckKit.due("a strait", x.far(7, 0), 7);
        x = CheckKit.told("sea 1 8;");
        CheckKit.due("a strait", x.far(0, 7), 7);
        x = CheckKit.told("sea 1 1;");
        CheckKit.due("one cell", x.far(0, 0), 0);
        x = CheckKit.told("sea 3 3;land 1 0;land 1 1;land 1 2;");
        CheckKit.due("no way", x.far(0, 2), 99);
        CheckKit.due("on this side", x.far(0, 6), 2);
        x = CheckKit.told("sea 3 3;land 1 0;land 0 1;land 2 2;");
        CheckKit.due("not from corner to corner", x.far(0, 4), 99);
    }

    private static void aboard() {
        SentenceKit.terms("A MEAL t: ABOARD are MOUTHS from .. till it that haven't LEAPT (MAY only those that are, by call; none at first).");
        PlateVote x = CheckKit.told("sea 5 5;ship 2 2;mouth a 9 " + TURNS + ";mouth b 1 from 1 till 2 course=0;mouth c 1 loses 2 course=0;"
                + "may d 1 odds 1 from 1 course=0;may e 1 odds 1 loses 1 course=0;");
        String[] want = {"10100", "11100", "11011", "10010"};
        for (int t = 0; t < want.length; t++) {
            if (t == 2) {
                x.truth(3);
            }
            for (int i = 0; i < 5; i++) {
                CheckKit.due("meal " + t + ", number " + i, x.look(i, 0), want[t].charAt(i) - '0');
            }
            x.meals(1);
            if (t == 2) {
                CheckKit.due("plates of nine, of b, of d and e", x.log(2, 1), 12);
            }
        }
        x.truth(2);
        CheckKit.due("d is no more", x.look(3, 0), 0);
        CheckKit.due("e has leapt", x.look(4, 0), 0);
        x.meals(1);
        CheckKit.due("a alone has eaten", x.log(4, 1), 9);
    }

    private static void plates() {
        SentenceKit.terms("By numbers each ABOARD who is FED (by call, all at first; MAY always) has his plates, none while sick,");
        PlateVote x = CheckKit.told("sea 5 5;ship 2 2;mouth a 1 1;mouth b 2 sick 1 1 1;may c 4 odds 1 1;");
        x.meals(2);
        CheckKit.due("all fed", x.log(0, 1), 3);
        CheckKit.due("b is sick", x.log(1, 1), 1);
        x.fed(2);
        x.truth(1);
        x.meals(1);
        CheckKit.due("b and the hidden one", x.log(2, 1), 6);
        x.fed(0);
        x.meals(1);
        CheckKit.due("the hidden one", x.log(3, 1), 4);
        x.truth(0);
        x.meals(1);
        CheckKit.due("nobody", x.log(4, 1), 0);
        CheckKit.due("soup", x.ship(2), 100 - 3 - 1 - 6 - 4);
    }

    private static void fullCrew() {
        SentenceKit.terms("By numbers each ABOARD who is FED (by call, all at first; MAY always) has his plates, none while sick,");
        PlateVote x = CheckKit.told("sea 5 5;ship 2 2;bahia 3 2;soup 50;mouth a 9 course=1;mouth b 8 course=2;mouth c 7 course=1;mouth d 6 course=2;"
                + "mouth e 5 course=1;may f 4 odds 1 course=2;may g 3 odds 1 course=1;may h 2 odds 1 course=2;may i 9 odds 1 course=1;");
        x.truth(15);
        int[] wishes = {1, 2, 1, 2, 1, 2, 1, 2, 1};
        for (int i = 0; i < 9; i++) {
            CheckKit.due("wish of number " + i, x.wish(i), wishes[i]);
        }
        CheckKit.due("the last one has what is left", x.votes(1), 9 + 7 + 5 + 3 + 6);
        CheckKit.due("the others", x.votes(2), 8 + 6 + 4 + 2);
        CheckKit.due("those who may be aboard eat in any plan", x.plan(1, -1), 18);
        CheckKit.due("none of the mouths need be fed", x.plan(1, 0), 0);
        CheckKit.due("tried without the last one", x.tried(3, 8, 1), 13);
        CheckKit.due("all of them", x.meals(1), 1);
        CheckKit.due("eaten", x.log(0, 1), 50);
        CheckKit.due("taken", x.log(0, 0), 1);
        for (int i = 0; i < 9; i++) {
            CheckKit.due("lost of number " + i, x.look(i, 2), i % 2);
        }
        CheckKit.due("nothing is left", x.ship(2), 0);
        CheckKit.due("who had a plate has none", x.wish(8), -2);
    }

    private static void soup() {
        SentenceKit.terms("at most what is left of SOUP, which is less by them.");
        int[][] want = {{0, 0, 0}, {1, 0, 0}, {3, 0, 0}, {3, 1, 0}, {3, 2, 3}, {3, 2, 4}, {3, 2, 4}};
        int[] soups = {0, 1, 3, 4, 8, 9, 10};
        for (int k = 0; k < soups.length; k++) {
            // Each one's course is as many as his plates, by four.
            PlateVote x = CheckKit.told("sea 3 3;ship 1 1;soup " + soups[k] + ";mouth a 3 course=plates-plates/4*4;"
                    + "mouth b 2 course=plates-plates/4*4;may c 4 odds 1 course=plates-plates/4*4;");
            x.truth(1);
            for (int i = 0; i < 3; i++) {
                int due = want[k][i] == 0 ? -2 : want[k][i] % 4;
                CheckKit.due("soup " + soups[k] + ", wish of " + i, x.wish(i), due);
            }
            x.meals(1);
            CheckKit.due("eaten of " + soups[k], x.log(0, 1), want[k][0] + want[k][1] + want[k][2]);
            CheckKit.due("left of " + soups[k], x.ship(2), soups[k] - want[k][0] - want[k][1] - want[k][2]);
        }
        PlateVote x = CheckKit.told("soup 3;mouth a 3 sick 0 0 1;mouth b 3 1;mouth c 3 1;");
        x.fed(5);
        CheckKit.due("nobody eats of it who is sick or not fed", x.wish(2) >= 0, true);
        CheckKit.due("all three", x.votes(1), 3);
    }

    private static void greatest() {
        SentenceKit.terms("Who has a plate votes for the COURSE with the greatest E (ERROR: 0; of several the first)");
        String[] laws = {"course", "3-course", "1", "0-1", "course=2", "0-(course<2)", "(course=1)+(course=2)", "1/(course-1)",
            "1/(course-1)-1*(course<>1)", "0-1/(course-3)*0-(course<>3)", "1/0", "1000*1000*1000*1000*course", "course-5"};
        // Errors: 1/(course-1) is -1, error, 1, 0; behind it less 1; then -1 -1 -1 error; all; 0, 10^12, and errors; -5 ..
        int[] want = {3, 0, 0, 0, 2, 2, 1, 2, 1, 3, 0, 1, 3};
        for (int k = 0; k < laws.length; k++) {
            PlateVote x = CheckKit.told("sea 3 3;ship 1 1;mouth a 1 " + laws[k] + ";");
            CheckKit.due(laws[k], x.wish(0), want[k]);
        }
    }

    private static void whoVotes() {
        SentenceKit.terms("of those that lead to a CELL that isn't LAND: as many votes as plates; with none he doesn't vote.");
        PlateVote x = CheckKit.told("sea 3 3;ship 1 1;land 1 0;mouth a 9 9-course;mouth b 1 9-course;mouth c 0 9-course;");
        CheckKit.due("not up", x.wish(0), 1);
        CheckKit.due("votes for land", x.votes(0), 0);
        CheckKit.due("ten votes", x.votes(1), 10);
        CheckKit.due("no plate", x.wish(2), -2);
        String[] corners = {"0 0", "2 0", "2 2", "0 2"};
        int[] first = {1, 2, 0, 0};
        int[] last = {2, 3, 3, 1};
        for (int k = 0; k < 4; k++) {
            x = CheckKit.told("sea 3 3;ship " + corners[k] + ";mouth a 1 9-course;mouth b 1 course;");
            CheckKit.due("not outside, from " + corners[k], x.wish(0), first[k]);
            CheckKit.due("not outside, from " + corners[k], x.wish(1), last[k]);
        }
        x = CheckKit.told("sea 1 1;mouth a 3 loses 1 1;");
        CheckKit.due("none leads to water", x.wish(0), -2);
        x.meals(1);
        CheckKit.due("he has eaten", x.log(0, 1), 3);
        CheckKit.due("he has not voted", x.look(0, 2), 0);
        CheckKit.due("nor leapt", x.look(0, 3), 0);
        x = CheckKit.told("sea 3 3;ship 1 1;land 1 0;land 0 1;land 2 1;land 1 2;mouth a 3 loses 1 1;isle b 0 0 9 9;");
        CheckKit.due("land all round", x.wish(0), -2);
        for (int c = 0; c < 4; c++) {
            CheckKit.due("no votes", x.votes(c), 0);
        }
    }

    private static void isles() {
        SentenceKit.terms("An ISLE that is FAR from the SHIP at most as it reaches:");
        for (int reach = 0; reach <= 9; reach++) {
            PlateVote x = CheckKit.told("sea 8 3;ship 1 1;isle a 7 2 " + reach + " 5;");
            CheckKit.due("seven steps, reach " + reach, x.votes(1), reach >= 7 ? 5 : 0);
        }
        PlateVote x = CheckKit.told("sea 3 3;ship 1 1;isle a 1 1 0 5;");
        CheckKit.due("at it, reach 0", x.votes(0), 5);
        x = CheckKit.told("sea 3 3;ship 1 1;isle a 1 0 0 5;");
        CheckKit.due("beside it, reach 0", x.votes(0), 0);
        x = CheckKit.told("sea 3 2;land 1 0;isle a 2 0 3 5;");
        CheckKit.due("four steps by water", x.votes(2), 0);
        x = CheckKit.told("sea 3 2;land 1 0;isle a 2 0 4 5;");
        CheckKit.due("four steps by water", x.votes(2), 5);

        SentenceKit.terms("GOATS more for the COURSE (likewise) from whose CELL it is least FAR (the first; none if 99).");
        String[] isles = {"1 0", "2 1", "1 2", "0 1", "0 0", "2 0", "2 2", "0 2"};
        int[] first = {0, 1, 2, 3, 0, 0, 1, 2};
        for (int k = 0; k < isles.length; k++) {
            x = CheckKit.told("sea 3 3;ship 1 1;isle a " + isles[k] + " 9 7;mouth b 2 course=" + first[k] + ";");
            CheckKit.due("to " + isles[k], x.votes(first[k]), 9);
        }
        x = CheckKit.told("sea 3 3;ship 1 1;isle a 0 0 9 1;isle b 0 0 9 9;isle c 2 2 9 4;");
        CheckKit.due("two of them", x.votes(0), 10);
        CheckKit.due("the third", x.votes(1), 4);
        x = CheckKit.told("sea 3 3;ship 1 1;land 1 0;isle a 0 0 9 7;");
        CheckKit.due("not over land", x.votes(3), 7);
        CheckKit.due("not over land", x.votes(0), 0);
        x = CheckKit.told("sea 1 1;isle a 0 0 9 7;");
        for (int c = 0; c < 4; c++) {
            CheckKit.due("no course leads to it", x.votes(c), 0);
        }
        x = CheckKit.told("sea 3 1;land 1 0;isle a 2 0 9 7;");
        CheckKit.due("no way to it", x.votes(1), 0);
        x = CheckKit.told("sea 3 3;ship 1 1;isle a 1 0 1 7;");
        x.meals(1);
        CheckKit.due("it wins", x.log(0, 0), 0);
    }

    private static void gales() {
        SentenceKit.terms("GALES of this MEAL: for theirs.");
        PlateVote x = CheckKit.told("sea 3 3;ship 1 1;gale 1 2 3;gale 1 2 4;gale 1 0 99;gale 2 1 1;");
        int[][] want = {{0, 0, 0, 0}, {99, 0, 7, 0}, {0, 1, 0, 0}, {0, 0, 0, 0}};
        for (int t = 0; t < want.length; t++) {
            for (int c = 0; c < 4; c++) {
                CheckKit.due("meal " + t + " course " + c, x.votes(c), want[t][c]);
            }
            x.meals(1);
        }
        x = CheckKit.told("gale 0 0 9;gale 1 3 9;");
        x.meals(2);
        CheckKit.due("for outside, too", x.log(0, 0), 0);
        CheckKit.due("for outside, too", x.log(1, 0), 3);
    }

    /** The numbers of a seed, by the document's words. */
    private static final class Numbers {
        private BigInteger last;

        Numbers(long seed) {
            last = BigInteger.valueOf(seed);
        }

        int next() {
            last = last.multiply(BigInteger.valueOf(1103515245)).add(BigInteger.valueOf(12345)).mod(BigInteger.TWO.pow(31));
            return last.divide(BigInteger.valueOf(65536)).intValueExact();
        }
    }

    private static void storm() {
        SentenceKit.terms("STORM (not if it is 0): a number modulo 100; if that is below it, a number modulo 4 is a COURSE that has its plates more.");
        int[] odds = {0, 1, 2, 38, 39, 50, 98, 99};
        for (int of : odds) {
            PlateVote x = CheckKit.told("sea 8 8;ship 4 4;seed 1;storm " + of + " 2;mouth a 1 0-far;");
            Numbers numbers = new Numbers(1);
            x.meals(60);
            for (int t = 0; t < 60; t++) {
                boolean comes = of > 0 && numbers.next() % 100 < of;
                int course = comes ? numbers.next() % 4 : -1;
                CheckKit.due("storm " + of + " at meal " + t, x.log(t, 3), course);
                if (comes) {
                    CheckKit.due("two against one at meal " + t, x.log(t, 0), course);
                }
            }
        }
        // The first two numbers of seed 1 are 16838 and 5758: 38 of a hundred, course 2.
        int[] plates = {1, 2, 3};
        int[] taken = {1, 1, 2};
        for (int k = 0; k < plates.length; k++) {
            PlateVote x = CheckKit.told("sea 3 3;ship 1 1;seed 1;storm 39 " + plates[k] + ";mouth a 2 course=1;");
            CheckKit.due("not in the votes now", x.votes(2), 0);
            x.meals(1);
            CheckKit.due("it came", x.log(0, 3), 2);
            CheckKit.due("a storm of " + plates[k], x.log(0, 0), taken[k]);
        }
        PlateVote x = CheckKit.told("sea 3 3;ship 1 1;seed 1;storm 39 1;mouth a 2 course=1;mouth b 2 course=2;");
        x.meals(1);
        CheckKit.due("its plates more", x.log(0, 0), 2);
        // The first two numbers of seed 342 are 24300 and 22806, those of seed 70 31801 and 3154.
        x = CheckKit.told("seed 342;storm 1 1;");
        x.meals(1);
        CheckKit.due("0 of a hundred is below 1", x.log(0, 3), 2);
        x = CheckKit.told("seed 70;storm 1 1;");
        x.meals(1);
        CheckKit.due("1 of a hundred isn't below 1", x.log(0, 3), -1);
        x = CheckKit.told("seed 342;storm 0 1;");
        x.meals(60);
        for (int t = 0; t < 60; t++) {
            CheckKit.due("not if it is 0, at meal " + t, x.log(t, 3), -1);
        }
    }

    private static void taken() {
        SentenceKit.terms("The COURSE with the most votes above 0 (the first of several), else the WIND's, is TAKEN:");
        PlateVote x = CheckKit.told("sea 3 3;ship 1 1;wind 3;mouth a 2 course=0;mouth b 2 course=1;mouth c 2 course=2;mouth d 2 course=3;");
        int[] fed = {15, 14, 12, 8, 0, 1, 2, 4, 3, 6};
        int[] want = {0, 1, 2, 3, 3, 0, 1, 2, 0, 1};
        for (int k = 0; k < fed.length; k++) {
            x.fed(fed[k]);
            x.meals(1);
            CheckKit.due("fed " + fed[k], x.log(0, 0), want[k]);
            x.undo();
        }
        x = CheckKit.told("sea 3 3;ship 1 1;wind 3 2;mouth a 1 sick 0 1 course=0;");
        x.meals(3);
        CheckKit.due("the wind's", x.log(0, 0), 3);
        CheckKit.due("the wind's", x.log(1, 0), 2);
        CheckKit.due("one vote is enough against it", x.log(2, 0), 0);

        SentenceKit.terms("the SHIP goes there if that isn't LAND or outside, else it stays.");
        String[] ends = {"1 0", "2 1", "1 2", "0 1"};
        int[] cells = {1, 5, 7, 3};
        for (int c = 0; c < 4; c++) {
            x = CheckKit.told("sea 3 3;ship 1 1;wind " + c + ";");
            x.meals(2);
            CheckKit.due("there", x.log(0, 2), cells[c]);
            CheckKit.due("outside", x.log(1, 2), cells[c]);
            CheckKit.due("taken all the same", x.log(1, 0), c);
            x = CheckKit.told("sea 3 3;ship 1 1;land " + ends[c] + ";wind " + c + ";");
            x.meals(1);
            CheckKit.due("land", x.log(0, 2), 4);
            CheckKit.due("taken all the same", x.log(0, 0), c);
        }
        x = CheckKit.told("sea 2 2;ship 1 0;wind 1;");
        x.meals(1);
        CheckKit.due("not on to the next row", x.ship(0), 1);
        x = CheckKit.told("sea 2 2;ship 0 1;wind 3;");
        x.meals(1);
        CheckKit.due("nor to the last one", x.ship(0), 2);
    }

    private static void lost() {
        SentenceKit.terms("Of those who voted: who voted for it has LOST 0 in a row, the others one more;");
        PlateVote x = CheckKit.told("sea 5 5;ship 2 2;mouth a 9 sick 3 3 " + TURNS + ";mouth b 1 sick 1 1 course=0;mouth c 1 course=0;"
                + "may d 1 odds 1 course=0;");
        int[][] want = {{0, 1, 1, 0}, {0, 1, 2, 0}, {0, 2, 3, 1}, {0, 0, 0, 0}, {0, 1, 1, 1}, {0, 1, 2, 2}};
        for (int t = 0; t < want.length; t++) {
            if (t == 2) {
                x.truth(1);
            }
            x.fed(t == 5 ? 5 : 7);
            x.meals(1);
            for (int i = 0; i < 4; i++) {
                CheckKit.due("behind meal " + t + ", number " + i, x.look(i, 2), want[t][i]);
            }
        }
        x = CheckKit.told("gale 0 0 9;mouth a 1 1;");
        x.meals(1);
        CheckKit.due("lost against outside", x.look(0, 2), 1);

        SentenceKit.terms("with as many as loses one LEAPS.");
        for (int loses = 1; loses <= 5; loses++) {
            x = CheckKit.told("sea 5 5;ship 2 2;mouth a 9 " + TURNS + ";mouth b 1 loses " + loses + " course=0;");
            x.meals(loses - 1);
            CheckKit.due("not yet", x.look(1, 3), 0);
            x.meals(1);
            CheckKit.due("now", x.look(1, 3), 1);
            CheckKit.due("as many", x.look(1, 2), loses);
            x.meals(1);
            CheckKit.due("he is off", x.log(loses, 1), 9);
        }
        x = CheckKit.told("sea 5 5;ship 2 2;mouth a 9 sick 1 1 " + TURNS + ";mouth b 1 loses 2 course=0;");
        x.meals(3);
        CheckKit.due("twice, but not in a row", x.look(1, 3), 0);
        x.meals(1);
        CheckKit.due("twice in a row", x.look(1, 3), 1);
    }

    private static void numbers() {
        SentenceKit.terms("Numbers are the last one (at first the seed) times 1103515245 and 12345, without what is above 31 bits, by 65536.");
        // 16838 5758 | 10113 17515 | 31051 5627 | 23010 7419 | 16212 4086
        int[] seedOne = {2, 3, 3, 3, 2};
        PlateVote x = CheckKit.told("sea 8 8;ship 4 4;seed 1;storm 99 9;");
        x.meals(5);
        for (int t = 0; t < seedOne.length; t++) {
            CheckKit.due("seed 1, meal " + t, x.log(t, 3), seedOne[t]);
        }
        for (long seed : new long[] {0, 2, 9999, 65535, 65536, 99998, 99999}) {
            x = CheckKit.told("sea 8 8;ship 4 4;storm 55 9;seed " + seed + ";");
            Numbers numbers = new Numbers(seed);
            x.meals(60);
            for (int t = 0; t < 60; t++) {
                CheckKit.due("seed " + seed + ", meal " + t, x.log(t, 3), numbers.next() % 100 < 55 ? numbers.next() % 4 : -1);
            }
        }
    }

    private static void names() {
        SentenceKit.terms("NAMES: course; far: FAR of BAHIA from the CELL it leads to; windy: 1, if it is the WIND's; meal; plates: his of this MEAL; lost; "
                + "stock: SOUP ahead of the MEAL.");
        PlateVote x = CheckKit.told("sea 3 3;ship 1 1;bahia 2 2;land 1 0;wind 2 3;soup 13;mouth a 1 course;mouth b 1 far;mouth c 1 windy;"
                + "mouth d 3 meal;mouth e 2 lost;may f 1 odds 1 stock;may g 1 odds 1 plates;");
        long[][] want = {{0, 1, 2, 3}, {99, 1, 1, 3}, {0, 0, 1, 0}, {0, 0, 0, 0}, {0, 0, 0, 0}, {13, 13, 13, 13}, {5, 5, 5, 5}};
        for (int i = 0; i < want.length; i++) {
            for (int c = 0; c < 4; c++) {
                CheckKit.due("meal 0, law of " + i + " for " + c, x.law(i, c, 5), want[i][c]);
            }
        }
        x.meals(1);
        // a went left, b right, c down, d and e right: right it is.
        CheckKit.due("right", x.ship(0), 5);
        CheckKit.due("lost of e", x.law(4, 3, 0), 0);
        CheckKit.due("meal", x.law(3, 3, 0), 1);
        CheckKit.due("far of the cell beside bahia's", x.law(1, 2, 0), 0);
        CheckKit.due("far", x.law(1, 3, 0), 2);
        CheckKit.due("outside", x.law(1, 1, 0), Long.MIN_VALUE);
        CheckKit.due("the second wind", x.law(2, 3, 0), 1);
        CheckKit.due("not the first", x.law(2, 2, 0), 0);
        CheckKit.due("stock", x.law(5, 0, 0), 5);
        x = CheckKit.told("sea 3 3;ship 1 1;bahia 2 2;land 1 2;land 2 1;mouth a 1 far;");
        CheckKit.due("no way to bahia", x.law(0, 0, 0), 99);
        x = CheckKit.told("sea 5 5;ship 2 2;mouth a 9 " + TURNS + ";mouth b 1 lost;mouth c 1 course=lost;");
        x.meals(2);
        CheckKit.due("lost twice", x.law(1, 0, 0), 2);
        CheckKit.due("his own", x.law(0, 0, 0), 0);
        x = CheckKit.told("sea 3 3;ship 1 1;soup 5;mouth a 2 course=stock-3;mouth b 2 course=stock-3;mouth c 2 course=plates+1;");
        CheckKit.due("stock ahead of the meal", x.wish(0), 2);
        CheckKit.due("stock ahead of the meal", x.wish(1), 2);
        CheckKit.due("the plate that is left", x.wish(2), 2);
    }

    private static void value(String e, long want) {
        CheckKit.due(e, CheckKit.told("sea 3 3;ship 1 1;mouth a 1 " + e + ";").law(0, 1, 7), want);
    }

    private static void values() {
        SentenceKit.terms("VALUES are longs; comparisons, and, or, not are 1 or 0 (what isn't 0 is as 1, both sides are worked out), / is cut towards 0;");
        value("9999*9999*9999", 999700029999L);
        value("0-9999*9999*9999", -999700029999L);
        value("6553*655*1000", 4292215000L);
        value("5 and 7", 1);
        value("5 or 7", 1);
        value("0 or (0-7)", 1);
        value("(0-7) and (0-7)", 1);
        value("0 and 7", 0);
        value("7 and 0", 0);
        value("0 or 0", 0);
        value("not (0-7)", 0);
        value("not 7", 0);
        value("(not 0)+(1<2)+(1 or 0)", 3);
        value("0 and 1/0", Long.MIN_VALUE);
        value("1/0 and 0", Long.MIN_VALUE);
        value("1 or 1/0", Long.MIN_VALUE);
        value("1/0 or 1", Long.MIN_VALUE);
        value("7/2", 3);
        value("(0-7)/2", -3);
        value("7/(0-2)", -3);
        value("(0-7)/(0-2)", 3);
        value("(0-1)/2", 0);
        value("1/2", 0);
    }

    private static void errors() {
        SentenceKit.terms("ERROR: / by 0, a value above 10 to the 12 or below 0 by more than that.");
        String most = "1000*1000*1000*1000";
        long large = 1000000000000L;
        value("1/0", Long.MIN_VALUE);
        value("0/0", Long.MIN_VALUE);
        value("1/(1-1)", Long.MIN_VALUE);
        value(most, large);
        value(most + "+0", large);
        value(most + "-1", large - 1);
        value("1+" + most, Long.MIN_VALUE);
        value(most + "+1", Long.MIN_VALUE);
        value(most + "+1-1", Long.MIN_VALUE);
        value("0-" + most, -large);
        value("1-" + most, 1 - large);
        value("0-" + most + "-1", Long.MIN_VALUE);
        value("0-1-" + most, Long.MIN_VALUE);
        value(most + "*1", large);
        value(most + "*2", Long.MIN_VALUE);
        value(most + "*(0-1)", -large);
        value(most + "*(0-2)", Long.MIN_VALUE);
        value("(0-2)*(" + most + ")", Long.MIN_VALUE);
        value("(0-1)*(0-" + most + ")", large);
        value("0*(" + most + ")", 0);
        value("(" + most + ")*0", 0);
        value("(0-" + most + ")/(0-1)", large);
        value("1001*1000*1000*1000", Long.MIN_VALUE);
        value("(" + most + ")*(" + most + ")", Long.MIN_VALUE);
        value("(" + most + ")*(0-" + most + ")", Long.MIN_VALUE);
        // 2 to the 64 is 0 as a long, and 2 to the 63 the least one.
        value("(256*256*256*256)*(256*256*256*256)", Long.MIN_VALUE);
        value("(256*256*256*256)*(256*256*256*128)", Long.MIN_VALUE);
        value("(256*256*256*256)*(256*256*256*256)+5", Long.MIN_VALUE);
        // What an error is part of is one.
        value("0*(1/0)", Long.MIN_VALUE);
        value("not 1/0", Long.MIN_VALUE);
        value("1/0=1/0", Long.MIN_VALUE);
        value("1/0<1", Long.MIN_VALUE);
        value("1/(1/0)", Long.MIN_VALUE);
        value("1/0/5", Long.MIN_VALUE);
    }
}
