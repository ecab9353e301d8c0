/** The edges of PLAN, POWER and TRIED: the Terms' third part, promises 17, 18 and 27. */
final class PlanEdgesKit {
    private PlanEdgesKit() {
    }

    static void run() {
        planTerms();
        leastPlan();
        planByPlaying();
        plan();
        noPlan();
        powerTerms();
        power();
        triedTerms();
        tried();
    }

    private static void planTerms() {
        SentenceKit.terms("PLAN by n MEALS 1 .. 3 from now on: for each whom to FEED (bits of MOUTHS without MAY), so that the SHIP is at BAHIA "
                + "behind one of them (0 MEALS if it is):");
        for (int far = 0; far <= 5; far++) {
            PlateVote x = CheckKit.told("sea 8 1;ship 1 0;bahia " + (1 + far) + " 0;wind 3;mouth a 2 course=1;may b 9 odds 1 course=3;");
            for (int n = 1; n <= 3; n++) {
                boolean comes = far <= n;
                CheckKit.due("far " + far + ", by " + n, x.plan(n, -1), comes ? 2 * far : -2);
                for (int k = 0; k < 3; k++) {
                    CheckKit.due("far " + far + ", by " + n + ", meal " + k, x.plan(n, k), comes && k < far ? 1 : -2);
                }
            }
        }
        PlateVote x = CheckKit.told("sea 8 1;ship 1 0;bahia 3 0;wind 3;mouth a 2 course=1;may b 3 odds 1 course=3;");
        x.fed(0);
        CheckKit.due("whoever is fed now", x.plan(3, -1), 4);
        x.truth(1);
        CheckKit.due("the hidden one goes left", x.plan(3, -1), -2);
        x.truth(0);
        x.fed(1);
        x.meals(1);
        CheckKit.due("from now on", x.plan(1, 0), 1);
        x.meals(1);
        CheckKit.due("she is there", x.plan(1, -1), 0);
        CheckKit.due("she is there", x.plan(1, 0), -2);
        x = CheckKit.told("sea 8 1;ship 1 0;bahia 2 0;wind 1;");
        CheckKit.due("nobody to feed, one meal", x.plan(3, -1), 0);
        CheckKit.due("nobody to feed, one meal", x.plan(3, 0), 0);
        CheckKit.due("nobody to feed, one meal", x.plan(3, 1), -2);
        // There is a plate less at each meal, and who has lost has leapt.
        x = CheckKit.told("sea 8 1;ship 1 0;bahia 4 0;wind 3;soup 5;mouth a 2 course=1;");
        CheckKit.due("two, two and the last one", x.plan(3, -1), 5);
        x = CheckKit.told("sea 8 1;ship 1 0;bahia 4 0;wind 3;soup 4;mouth a 2 course=1;");
        CheckKit.due("none for the third", x.plan(3, -1), -2);
        x = CheckKit.told("sea 8 1;ship 1 0;bahia 2 0;wind 3;gale 0 0 3;mouth a 2 loses 1 course=1;mouth b 3 course=1;");
        CheckKit.due("a only at meal 1", x.plan(2, -1), 2);
        CheckKit.due("a only at meal 1", x.plan(2, 0), 0);
        x = CheckKit.told("sea 8 1;ship 1 0;bahia 2 0;wind 3;gale 0 0 3;may a 2 odds 1 loses 1 course=1;mouth b 3 course=1;");
        x.truth(1);
        CheckKit.due("the hidden one and b at once", x.plan(2, -1), 5);
        x = CheckKit.told("sea 8 1;ship 1 0;bahia 2 0;wind 3;gale 0 0 9;may a 2 odds 1 loses 1 course=1;mouth b 3 course=1;");
        x.truth(1);
        CheckKit.due("he loses and leaps, b then", x.plan(2, -1), 5);
        CheckKit.due("he loses and leaps, b then", x.plan(2, 1), 1);
    }

    private static void leastPlan() {
        SentenceKit.terms("the least SOUP eaten till then (by all), of several the fewest MEALS, of several the first by MEALS (bits).");
        PlateVote x = CheckKit.told("sea 4 1;bahia 1 0;wind 3 1;mouth a 1 course=1;");
        CheckKit.due("at once for a plate", x.plan(1, -1), 1);
        CheckKit.due("later for nothing", x.plan(2, -1), 0);
        CheckKit.due("later for nothing", x.plan(2, 0), 0);
        CheckKit.due("later for nothing", x.plan(2, 1), 0);
        // At once with a for 2 and the hidden one's 1; or left with him for 1, then with b twice for 1.
        String three = "sea 4 1;ship 1 0;bahia 2 0;mouth a 2 till 0 course=1;mouth b 1 from 1 course=1;may c 1 odds 1 till 0 course=3;";
        x = CheckKit.told(three + "wind 3;");
        x.truth(1);
        CheckKit.due("three plates", x.plan(3, -1), 3);
        CheckKit.due("the fewest meals", x.plan(3, 0), 1);
        CheckKit.due("the fewest meals", x.plan(3, 1), -2);
        x = CheckKit.told(three + "wind 3 3 1;");
        x.truth(1);
        CheckKit.due("two plates", x.plan(3, -1), 2);
        int[] want = {0, 2, 0};
        for (int k = 0; k < 3; k++) {
            CheckKit.due("the least soup, meal " + k, x.plan(3, k), want[k]);
        }
        // Down by the wind, right by a: in either order.
        x = CheckKit.told("sea 2 2;bahia 1 1;wind 2;mouth a 1 course=1;");
        CheckKit.due("one plate", x.plan(3, -1), 1);
        CheckKit.due("first the wind", x.plan(3, 0), 0);
        CheckKit.due("then a", x.plan(3, 1), 1);
        x = CheckKit.told("sea 4 1;bahia 2 0;wind 3;mouth z 0 course=1;mouth a 2 course=1;mouth b 1 course=1;mouth c 1 course=1;mouth d 1 course=1;");
        CheckKit.due("the first of b, c, d", x.plan(3, 0), 4);
        CheckKit.due("the first of b, c, d", x.plan(3, 1), 4);
        CheckKit.due("two plates", x.plan(3, -1), 2);
        // With the last plate it is the same whoever of b and c asks for more.
        x = CheckKit.told("sea 4 1;bahia 1 0;wind 3;soup 1;mouth b 9 course=1;mouth c 1 course=1;");
        CheckKit.due("what is left", x.plan(1, -1), 1);
        CheckKit.due("the first", x.plan(1, 0), 1);
        x = CheckKit.told("sea 4 1;bahia 1 0;wind 1;may c 3 odds 1 course=1;");
        x.truth(1);
        CheckKit.due("what all eat", x.plan(1, -1), 3);
        // One votes otherwise by how much is left for him: each number of plates has a wish of its own.
        x = CheckKit.told("sea 4 1;ship 1 0;bahia 2 0;wind 3;soup 10;mouth a 9 course=3;mouth b 8 (course=1)*(plates>7)+(course=3)*(plates<8);"
                + "mouth c 1 course=1;mouth d 9 course=(plates<3)*2+1;");
        CheckKit.due("c alone", x.plan(1, -1), 1);
        CheckKit.due("c alone", x.plan(1, 0), 4);
        x = CheckKit.told("sea 4 1;ship 1 0;bahia 2 0;wind 3;soup 10;gale 0 3 7;mouth a 9 course=3;mouth b 8 (course=1)*(plates>7)+(course=3)*(plates<8);"
                + "mouth c 1 course=1;mouth d 9 course=(plates<3)*2+1;");
        CheckKit.due("b alone", x.plan(1, -1), 8);
        CheckKit.due("b alone", x.plan(1, 0), 2);
        x = CheckKit.told("sea 4 1;ship 1 0;bahia 2 0;wind 3;soup 10;mouth a 9 course=3;mouth b 9 course=3;mouth c 1 course=1;mouth d 9 course=3;");
        CheckKit.due("c alone, behind those with nine", x.plan(1, -1), 1);
        CheckKit.due("c alone, behind those with nine", x.plan(1, 0), 4);
        // What was asked for a plan is over with it.
        x = CheckKit.told("sea 4 1;ship 1 0;bahia 3 0;wind 1;soup 9;mouth a 1 course=1+2*meal;");
        x.meals(1);
        CheckKit.due("a goes left, the wind right", x.plan(1, 0), 0);
        CheckKit.due("left", x.wish(0), 3);
        x.undo();
        CheckKit.due("right, once that is undone", x.wish(0), 1);
        CheckKit.due("two by the wind", x.plan(2, -1), 0);
        CheckKit.tell(x, "sea 4 1;ship 1 0;bahia 3 0;mouth a 1 course=3;");
        CheckKit.due("left, by another text", x.wish(0), 3);
    }

    /** The best plan as it is when all are played: soup, meals, and whom to feed at each of them; null without one. */
    private static int[] played(String text, int truth, int n) {
        int sets = 1 << CheckKit.told(text).count(2);
        int[] best = null;
        for (int all = 0; all < Math.pow(sets, n); all++) {
            PlateVote x = CheckKit.told(text);
            x.truth(truth);
            int[] plan = new int[2 + n];
            int rest = all;
            for (int k = n - 1; k >= 0; k--) {
                plan[2 + k] = rest % sets;
                rest /= sets;
            }
            while (plan[1] < n && x.ship(0) != x.ship(1)) {
                x.fed(plan[2 + plan[1]]);
                x.meals(1);
                plan[0] += x.log(plan[1], 1);
                plan[1]++;
            }
            java.util.Arrays.fill(plan, 2 + plan[1], 2 + n, 0);
            if (x.ship(0) == x.ship(1) && (best == null || java.util.Arrays.compare(plan, best) < 0)) {
                best = plan;
            }
        }
        return best;
    }

    private static void planByPlaying() {
        SentenceKit.terms("the least SOUP eaten till then (by all), of several the fewest MEALS, of several the first by MEALS (bits).");
        String[] texts = {
            "sea 4 4;bahia 2 1;wind 3 0;soup 9;mouth a 3 course=plates;mouth b 2 course=meal;mouth c 4 loses 1 course=plates-1;",
            "sea 4 4;ship 1 1;bahia 3 2;soup 6;mouth a 2 course=stock-stock/4*4;mouth b 3 course=plates;mouth c 1 from 1 course=2;may m 2 odds 1 course=0;",
            "sea 4 4;ship 3 3;bahia 2 1;wind 1;gale 0 2 2;gale 1 1 1;mouth a 1 course=0;mouth b 1 loses 1 course=3;mouth c 2 course=(meal=1)*3;isle i 3 3 1 1;",
            "sea 3 3;ship 1 1;bahia 0 0;soup 8;mouth a 3 course=lost;mouth b 3 course=3-lost;mouth c 3 course=plates;may m 1 odds 1 course=2;",
            "sea 3 3;land 1 0;bahia 2 1;soup 5;mouth a 2 sick 1 1 0-far;mouth b 3 till 1 0-far;mouth c 1 far;",
            "sea 4 4;ship 2 2;bahia 1 0;soup 7;mouth a 1 course=(meal<2)*3;mouth b 2 course=0;mouth c 3 course=plates;mouth d 2 course=plates+1;"};
        for (String text : texts) {
            for (int truth = 0; truth < (text.contains("may") ? 2 : 1); truth++) {
                for (int n = 1; n <= (text.contains("mouth d") ? 2 : 3); n++) {
                    int[] best = played(text, truth, n);
                    PlateVote x = CheckKit.told(text);
                    x.truth(truth);
                    CheckKit.due("soup by " + n + " of " + text, x.plan(n, -1), best == null ? -2 : best[0]);
                    for (int k = 0; k < 3; k++) {
                        CheckKit.due("meal " + k + " by " + n + " of " + text, x.plan(n, k), best == null || k >= best[1] ? -2 : best[2 + k]);
                    }
                }
            }
        }
    }

    private static void plan() {
        SentenceKit.promise(17, "PLAN (n 1 .. 3), what NONE: the SOUP, a MEAL 0 up of it: whom to FEED (bits).");
        PlateVote x = CheckKit.told("sea 5 1;bahia 3 0;wind 3;mouth a 5 sick 1 1 course=1;mouth b 2 course=1;mouth c 1 sick 2 2 course=1;mouth d 0 1;"
                + "mouth e 1 from 2 till 2 course=1;");
        int[] want = {4, 4, 16};
        CheckKit.due("one of c, c and e", x.plan(3, -1), 3);
        for (int k = 0; k < 3; k++) {
            CheckKit.due("meal " + k, x.plan(3, k), want[k]);
        }
        String before = CallEdgesKit.state(x);
        x.plan(3, 2);
        CheckKit.due("it changes nothing", CallEdgesKit.state(x).equals(before), true);
        x = CheckKit.told("sea 5 5;ship 2 2;bahia 4 3;soup 7;mouth a 3 course=plates;mouth b 3 course=meal;mouth c 3 course=stock-4;");
        int[] wishes = {3, 0, 3};
        for (int n = 1; n <= 3; n++) {
            x.plan(n, -1);
            for (int i = 0; i < 3; i++) {
                CheckKit.due("the wish behind a plan of " + n, x.wish(i), wishes[i]);
            }
            CheckKit.due("the votes behind a plan of " + n, x.votes(3), 4);
        }
        x = CheckKit.told("sea 5 1;ship 1 0;bahia 4 0;wind 3;mouth a 9 course=3;mouth b 9 course=3;mouth c 9 course=3;mouth d 9 course=3;mouth e 9 course=1;");
        for (int k = 0; k < 3; k++) {
            CheckKit.due("the fifth's bit at meal " + k, x.plan(3, k), 16);
        }

        SentenceKit.promise(17, "-2: there is none, there are no so many MEALS in it;");
        x = CheckKit.told("sea 5 1;bahia 2 0;wind 3;mouth a 1 course=1;");
        CheckKit.due("none by one", x.plan(1, -1), -2);
        CheckKit.due("none by one", x.plan(1, 0), -2);
        CheckKit.due("none by one", x.plan(1, 2), -2);
        CheckKit.due("no third meal", x.plan(3, 2), -2);
        CheckKit.due("no third meal", x.plan(2, 2), -2);
        CheckKit.due("two meals", x.plan(3, 1), 1);
        CheckKit.due("there", new PlateVote().plan(1, 0), -2);
        CheckKit.due("there", new PlateVote().plan(3, 2), -2);
        x = CheckKit.told("sea 3 1;land 1 0;bahia 2 0;mouth a 1 1;");
        CheckKit.due("no way", x.plan(3, -1), -2);
    }

    private static void noPlan() {
        SentenceKit.promise(17, "NONE: no such ones (beyond 2, behind MEAL 59).");
        PlateVote x = CheckKit.told("sea 5 1;bahia 2 0;wind 3;soup 0;mouth a 1 course=1;");
        for (int what = -1; what <= 2; what++) {
            CheckKit.due("n 0", x.plan(0, what), -1);
            CheckKit.due("n 4", x.plan(4, what), -1);
            CheckKit.due("n -1", x.plan(-1, what), -1);
            for (int wild : CallEdgesKit.WILD) {
                CheckKit.due("n " + wild, x.plan(wild, what), -1);
            }
        }
        for (int n = 1; n <= 3; n++) {
            CheckKit.due("what 3", x.plan(n, 3), -1);
            CheckKit.due("what -2", x.plan(n, -2), -1);
            for (int wild : CallEdgesKit.WILD) {
                CheckKit.due("what " + wild, x.plan(n, wild), -1);
            }
        }
        int[][] want = {{-2, -2, -2}, {-2, -2, -1}, {-2, -1, -1}, {-1, -1, -1}};
        x.meals(57);
        for (int t = 57; t <= 60; t++) {
            for (int n = 1; n <= 3; n++) {
                CheckKit.due("at meal " + t + " by " + n, x.plan(n, -1), want[t - 57][n - 1]);
                CheckKit.due("at meal " + t + " by " + n, x.plan(n, 0), want[t - 57][n - 1]);
            }
            x.meals(1);
        }
        x = new PlateVote();
        x.meals(58);
        CheckKit.due("there, but behind meal 59", x.plan(3, -1), -1);
        CheckKit.due("there", x.plan(2, -1), 0);

        SentenceKit.promise(17, "STORM: none comes.");
        x = CheckKit.told("sea 5 1;bahia 2 0;wind 3;seed 1;storm 99 99;mouth a 1 course=1;");
        CheckKit.due("as in a calm", x.plan(2, -1), 2);
        CheckKit.due("as in a calm", x.plan(2, 1), 1);
        x.meals(1);
        CheckKit.due("its numbers are left", x.log(0, 3), 2);
        CheckKit.due("she stays", x.ship(0), 0);
    }

    private static void power(PlateVote x, int i, int above, int below) {
        CheckKit.due("above of " + i, x.power(i, 0), above);
        CheckKit.due("below of " + i, x.power(i, 1), below);
    }

    private static void powerTerms() {
        SentenceKit.terms("POWER of one ABOARD: of all orders in which those ABOARD come, each with plates as told (0 while sick): in how many he is "
                + "the one with whom they have more than half of all plates.");
        PlateVote x = CheckKit.told("soup 0;mouth a 4 1;mouth b 2 1;mouth c 1 1;mouth d 1 1;");
        // Of 8 more than 4: a does it unless he comes first; each other one only behind a alone.
        power(x, 0, 3, 4);
        power(x, 1, 1, 12);
        power(x, 2, 1, 12);
        power(x, 3, 1, 12);
        x = CheckKit.told("mouth a 1 1;mouth b 1 1;");
        power(x, 0, 1, 2);
        power(x, 1, 1, 2);
        x = CheckKit.told("mouth a 5 1;mouth b 2 1;mouth c 2 1;");
        x.fed(0);
        power(x, 0, 1, 1);
        power(x, 1, 0, 1);
        x = CheckKit.told("mouth a 4 1;mouth b 2 1;mouth c 2 1;");
        power(x, 0, 2, 3);
        power(x, 1, 1, 6);
        x = CheckKit.told("mouth a 3 1;mouth b 2 sick 0 0 1;mouth c 2 from 1 1;may d 3 odds 1 1;");
        power(x, 0, 1, 1);
        power(x, 1, 0, 1);
        x.truth(1);
        power(x, 0, 1, 2);
        power(x, 3, 1, 2);
        x.meals(1);
        // 3 2 2 3 of 10: two threes do it, a three and twos do, two twos don't.
        power(x, 0, 1, 3);
        power(x, 1, 1, 6);
        power(x, 2, 1, 6);
        power(x, 3, 1, 3);
        x = CheckKit.told("mouth a 0 1;");
        power(x, 0, 0, 1);
        x = CheckKit.told("mouth a 9 sick 0 0 1;mouth b 0 1;");
        power(x, 0, 0, 1);
        x = CheckKit.told("mouth a 1 1;");
        power(x, 0, 1, 1);
    }

    private static void power() {
        SentenceKit.promise(18, "POWER in least terms, what 0: the number above, 1: the one below.");
        PlateVote x = CheckKit.told("mouth a 1 1;mouth b 1 1;mouth c 1 1;mouth d 1 1;mouth e 1 1;may f 1 odds 1 1;may g 1 odds 1 1;"
                + "may h 1 odds 1 1;may i 1 odds 1 1;");
        x.truth(15);
        for (int i = 0; i < 9; i++) {
            power(x, i, 1, 9);
        }
        x = CheckKit.told("mouth a 9 1;mouth b 0 1;mouth c 0 1;mouth d 0 1;mouth e 0 1;may f 0 odds 1 1;may g 0 odds 1 1;may h 0 odds 1 1;may i 9 odds 1 1;");
        x.truth(15);
        power(x, 0, 1, 2);
        power(x, 8, 1, 2);
        power(x, 4, 0, 1);
        x = CheckKit.told("mouth a 9 1;mouth b 8 1;mouth c 7 1;mouth d 6 1;mouth e 5 1;may f 4 odds 1 1;may g 3 odds 1 1;may h 2 odds 1 1;may i 1 odds 1 1;");
        x.truth(15);
        long above = 0;
        for (int i = 0; i < 9; i++) {
            CheckKit.due("a part of all orders", 362880 % x.power(i, 1), 0);
            above += 362880L / x.power(i, 1) * x.power(i, 0);
        }
        CheckKit.due("one of them does it in each order", above, 362880);

        SentenceKit.promise(18, "NONE: no such ones, not ABOARD, no MEAL is next.");
        x = CheckKit.told("gale 0 0 9;mouth a 1 1;mouth b 1 from 1 till 1 1;mouth c 1 loses 1 1;may d 1 odds 1 1;");
        for (int what = 0; what < 2; what++) {
            CheckKit.due("number 4", x.power(4, what), -1);
            CheckKit.due("number -1", x.power(-1, what), -1);
            CheckKit.due("not yet", x.power(1, what), -1);
            CheckKit.due("aboard", x.power(2, what) > 0, true);
            CheckKit.due("he isn't", x.power(3, what), -1);
            for (int wild : CallEdgesKit.WILD) {
                CheckKit.due("number " + wild, x.power(wild, what), -1);
            }
        }
        CheckKit.due("what 2", x.power(0, 2), -1);
        CheckKit.due("what -1", x.power(0, -1), -1);
        for (int wild : CallEdgesKit.WILD) {
            CheckKit.due("what " + wild, x.power(0, wild), -1);
        }
        x.meals(1);
        CheckKit.due("now", x.power(1, 0), 1);
        CheckKit.due("leapt", x.power(2, 0), -1);
        x.meals(1);
        CheckKit.due("no more", x.power(1, 0), -1);
        x.meals(57);
        CheckKit.due("the last meal", x.power(0, 0), 1);
        x.meals(1);
        CheckKit.due("no meal", x.power(0, 0), -1);
        CheckKit.due("no meal", x.power(0, 1), -1);
    }

    private static void triedTerms() {
        SentenceKit.terms("TRIED: n MEALS on from now: 0 nobody is sick, 1 no ISLES, 2 no GALES, no STORM, 3 MOUTH i isn't ABOARD, 4 SOUP is never less "
                + "(within a MEAL, too), 5 nobody LEAPS: the SHIP's CELL then.");
        PlateVote x = CheckKit.told("sea 5 5;ship 2 2;wind 0;mouth a 3 sick 0 0 course=1;mouth b 2 course=2;may c 4 odds 1 sick 0 0 course=3;");
        CheckKit.due("0: a is well", x.tried(0, 0, 1), 13);
        CheckKit.due("else", x.tried(1, 0, 1), 17);
        x.truth(1);
        CheckKit.due("0: c is well", x.tried(0, 0, 1), 11);
        x = CheckKit.told("sea 5 5;ship 2 2;wind 0;isle i 4 2 9 2;isle j 4 2 9 2;mouth b 1 course=2;");
        CheckKit.due("1: no isles", x.tried(1, 0, 1), 17);
        CheckKit.due("else", x.tried(0, 0, 1), 13);
        // The storm's course is 2, then 3.
        x = CheckKit.told("sea 5 5;ship 2 2;wind 0;seed 1;storm 99 9;gale 0 1 8;gale 1 1 10;mouth b 1 course=3;");
        CheckKit.due("2: no gales, no storm", x.tried(2, 0, 1), 11);
        CheckKit.due("2: no gales, no storm", x.tried(2, 0, 2), 10);
        CheckKit.due("else the storm", x.tried(0, 0, 1), 17);
        CheckKit.due("else then the gale", x.tried(0, 0, 2), 18);
        x.meals(2);
        CheckKit.due("the numbers are left", x.ship(0), 18);
        x = CheckKit.told("sea 5 5;ship 2 2;wind 0;mouth a 3 course=1;mouth b 2 course=2;may c 4 odds 1 course=3;");
        CheckKit.due("3: without a", x.tried(3, 0, 1), 17);
        CheckKit.due("3: without b", x.tried(3, 1, 1), 13);
        CheckKit.due("3: without c, who isn't", x.tried(3, 2, 1), 13);
        x.truth(1);
        CheckKit.due("3: without b, with c", x.tried(3, 1, 1), 11);
        CheckKit.due("3: without c", x.tried(3, 2, 1), 13);
        x = CheckKit.told("sea 5 5;ship 2 2;wind 0;soup 2;mouth a 2 course=3;mouth b 3 course=1;");
        CheckKit.due("4: b has two as well, and right is first", x.tried(4, 0, 1), 13);
        CheckKit.due("else", x.tried(0, 0, 1), 11);
        CheckKit.due("4: behind it", x.tried(4, 0, 2), 14);
        CheckKit.due("else the wind", x.tried(0, 0, 2), 6);
        x = CheckKit.told("sea 5 5;ship 2 2;wind 0;soup 3;mouth a 2 course=3;mouth b 3 course=1;");
        CheckKit.due("4: b has his three", x.tried(4, 0, 1), 13);
        CheckKit.due("4: not more than there is", CheckKit.told("sea 5 5;ship 2 2;wind 0;soup 0;mouth a 2 course=3;").tried(4, 0, 1), 7);
        CheckKit.due("else b has one", x.tried(0, 0, 1), 11);
        CheckKit.due("the soup is left", x.ship(2), 3);
        x = CheckKit.told("sea 5 5;ship 2 2;wind 0;gale 0 1 9;mouth a 2 loses 1 course=3;");
        CheckKit.due("5: he stays", x.tried(5, 0, 3), 11);
        CheckKit.due("else he leaps", x.tried(0, 0, 3), 3);
        CheckKit.due("nobody has leapt", x.look(0, 3), 0);
        CheckKit.due("nor lost", x.look(0, 2), 0);
        x = CheckKit.told("sea 5 5;ship 2 2;wind 0;mouth a 2 course=3;mouth b 1 course=1;");
        x.fed(2);
        CheckKit.due("as fed now", x.tried(0, 0, 1), 13);
        x.meals(1);
        CheckKit.due("from now", x.tried(0, 0, 1), 14);
        CheckKit.due("none", x.tried(0, 0, 0), 13);
        // The last plate is enough for sixty meals if it is never less.
        x = CheckKit.told("sea 2 1;soup 1;mouth a 1 1;");
        for (int n = 0; n <= 60; n++) {
            CheckKit.due("4: to and fro by " + n, x.tried(4, 0, n), n % 2);
            CheckKit.due("else only there: " + n, x.tried(0, 0, n), Math.min(1, n));
        }
        triedIsOver();
    }

    /** What was tried holds for that call alone. */
    private static void triedIsOver() {
        String text = "sea 5 5;ship 2 2;wind 0;soup 6;seed 1;storm 39 1;isle i 4 2 9 2;gale 1 3 3;gale 2 2 1;mouth a 3 sick 0 0 course=1;"
                + "mouth b 1 loses 1 course=0;mouth c 3 course=2;";
        for (int what = 0; what < 6; what++) {
            PlateVote x = CheckKit.told(text);
            PlateVote y = CheckKit.told(text);
            for (int t = 0; t < 6; t++) {
                x.tried(what, what == 3 ? 2 : 0, 3);
                for (int c = 0; c < 4; c++) {
                    CheckKit.due("votes behind " + what, x.votes(c), y.votes(c));
                }
                for (int i = 0; i < 3; i++) {
                    CheckKit.due("wish behind " + what, x.wish(i), y.wish(i));
                    CheckKit.due("plates behind " + what, x.look(i, 1), y.look(i, 1));
                    CheckKit.due("aboard behind " + what, x.look(i, 0), y.look(i, 0));
                }
                CheckKit.due("plan behind " + what, x.plan(3, -1), y.plan(3, -1));
                CheckKit.due("fits behind " + what, x.fits(), y.fits());
                x.tried(what, what == 3 ? 2 : 0, 3);
                x.meals(1);
                y.meals(1);
                for (int k = 0; k < 4; k++) {
                    CheckKit.due("log behind " + what, x.log(t, k), y.log(t, k));
                    CheckKit.due("ship behind " + what, x.ship(k), y.ship(k));
                }
            }
        }
    }

    private static void tried() {
        SentenceKit.promise(27, "TRIED (n 0 .. 60).");
        PlateVote x = CheckKit.told("sea 2 1;soup 999;mouth a 1 1;mouth b 0 1;");
        for (int n = 0; n <= 60; n++) {
            for (int what = 0; what < 6; what++) {
                CheckKit.due("to and fro by " + n + ", what " + what, x.tried(what, what == 3 ? 1 : 0, n), n % 2);
            }
        }
        CheckKit.due("nothing has happened", x.count(6) + x.count(9) + x.ship(0), 0);

        SentenceKit.promise(27, "NONE: no such ones (i 0 of all but 3; behind MEAL 59).");
        x = CheckKit.told("sea 2 1;soup 999;mouth a 1 1;mouth b 0 1;");
        for (int what = 0; what < 6; what++) {
            int i = 0;
            CheckKit.due("n 61", x.tried(what, i, 61), -1);
            CheckKit.due("n -1", x.tried(what, i, -1), -1);
            CheckKit.due("i 1", x.tried(what, 1, 1), what == 3 ? 1 : -1);
            CheckKit.due("i -1", x.tried(what, -1, 1), -1);
            CheckKit.due("i 2", x.tried(what, 2, 1), -1);
            for (int wild : CallEdgesKit.WILD) {
                CheckKit.due("n " + wild, x.tried(what, i, wild), -1);
                CheckKit.due("i " + wild, x.tried(what, wild, 1), -1);
            }
        }
        CheckKit.due("what 6", x.tried(6, 0, 1), -1);
        CheckKit.due("what -1", x.tried(-1, 0, 1), -1);
        for (int wild : CallEdgesKit.WILD) {
            CheckKit.due("what " + wild, x.tried(wild, 0, 1), -1);
        }
        CheckKit.due("no mouth at all", new PlateVote().tried(3, 0, 1), -1);
        CheckKit.due("the fifth may", CheckKit.told("may a 1 odds 1 1;").tried(3, 1, 1), -1);
        x.meals(1);
        CheckKit.due("sixty behind one", x.tried(0, 0, 60), -1);
        CheckKit.due("59 behind one", x.tried(0, 0, 59), 0);
        x.meals(58);
        CheckKit.due("two behind 59", x.tried(0, 0, 2), -1);
        CheckKit.due("one behind 59", x.tried(0, 0, 1), 0);
        x.meals(1);
        CheckKit.due("one behind 60", x.tried(0, 0, 1), -1);
        CheckKit.due("none behind 60", x.tried(0, 0, 0), 0);
    }
}
