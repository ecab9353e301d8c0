/** The edges of what is undone and kept, and of count(): the Terms' fourth part, promises 28 to 31. */
final class ImageEdgesKit {
    private static final String STORMY = "sea 5 5;ship 2 2;bahia 2 3;wind 1;seed 5;storm 60 2;soup 99;mouth a 2 loses 2 course=3;mouth b 3 course=2;"
            + "may m 4 odds 1 loses 9 course=0;";

    private ImageEdgesKit() {
    }

    static void run() {
        undoTerms();
        imageTerms();
        undo();
        keep();
        back();
        count();
    }

    private static void undoTerms() {
        SentenceKit.terms("MEALS can be undone, the latest first (20 at most).");
        for (int held : new int[] {0, 1, 19, 20, 21, 40, 41, 60}) {
            PlateVote x = sailed(held);
            int can = Math.min(20, held);
            CheckKit.due("of " + held, x.count(9), can);
            for (int k = 1; k <= can; k++) {
                CheckKit.due("of " + held + ", undone " + k, x.undo(), can - k);
                if (k < 3 || k == can) {
                    CheckKit.due("as ahead of meal " + (held - k), voyage(x).equals(voyage(orders(sailed(held - k)))), true);
                }
            }
            CheckKit.due("no more of " + held, x.undo(), -1);
            CheckKit.due("it stays", x.count(6), held - can);
        }
        PlateVote x = CheckKit.told(STORMY);
        x.meals(30);
        x.undo();
        x.undo();
        x.undo();
        x.meals(1);
        CheckKit.due("held again", x.count(9), 18);
        x.meals(5);
        CheckKit.due("no more than 20", x.count(9), 20);
        x.meals(0);
        CheckKit.due("none held", x.count(9), 20);
    }

    /** So many meals, each with others FED and others of those who may be aboard. */
    private static PlateVote sailed(int meals) {
        PlateVote x = CheckKit.told(STORMY);
        for (int t = 0; t < meals; t++) {
            orders(x).meals(1);
        }
        return x;
    }

    private static PlateVote orders(PlateVote x) {
        int meal = x.count(6);
        x.fed(meal % 4);
        x.truth(meal / 2 % 2);
        return x;
    }

    /** What the ship, the soup, all mouths and the latest meals are like now, without notes. */
    private static String voyage(PlateVote x) {
        StringBuilder all = new StringBuilder();
        for (int what = 0; what < 4; what++) {
            all.append(x.ship(what)).append(' ').append(x.votes(what)).append(' ');
        }
        for (int i = 0; i < 3; i++) {
            for (int what = 0; what < 5; what++) {
                all.append(x.look(i, what)).append(' ');
            }
        }
        for (int t = Math.max(0, x.count(6) - 3); t < x.count(6); t++) {
            for (int what = 0; what < 4; what++) {
                all.append(x.log(t, what)).append(' ');
            }
        }
        // By the storms to come the numbers can be told.
        int ahead = Math.min(5, 60 - x.count(6));
        return all.append(x.count(6)).append(' ').append(x.tried(1, 0, ahead)).toString();
    }

    private static void imageTerms() {
        SentenceKit.terms("An IMAGE keeps all but NOTES.");
        PlateVote x = CheckKit.told(STORMY);
        x.fed(1);
        x.truth(1);
        x.meals(4);
        x.fed(2);
        x.taken(0, 1);
        String before = voyage(x);
        x.keep();
        x.washed(0, 1);
        x.strike(0);
        x.truth(0);
        x.fed(3);
        x.undo();
        x.undo();
        x.meals(9);
        CheckKit.due("another voyage", voyage(x).equals(before), false);
        x.back();
        CheckKit.due("as it was", voyage(x).equals(before), true);
        CheckKit.due("but for notes", x.count(7), 3);
        x.meals(1);
        String then = voyage(x);
        x.back();
        x.meals(1);
        CheckKit.due("as often as one likes, by the same numbers", voyage(x).equals(then), true);
        // The log of meals ahead of the image, too, if these were undone and held otherwise.
        x = CheckKit.told("sea 5 5;ship 2 2;wind 1;mouth a 2 course=3;");
        x.meals(2);
        x.keep();
        x.undo();
        x.undo();
        x.fed(0);
        x.meals(3);
        x.washed(0, 0);
        CheckKit.due("otherwise", x.log(0, 0) * 10 + x.log(0, 1), 10);
        CheckKit.due("so", x.fraud(), -1);
        x.back();
        CheckKit.due("as it was", x.log(0, 0) * 10 + x.log(0, 1), 32);
        CheckKit.due("not so", x.fraud(), 0);
        CheckKit.due("fed as they were", x.fits(), 0);
        x.washed(1, 2);
        x.strike(0);
        CheckKit.due("fed as they were", x.fits(), 1);
        CheckKit.due("no meal behind it", x.log(2, 0), -1);
        CheckKit.due("the cells as they were", x.log(0, 2) * 100 + x.log(1, 2), 1110);
    }

    private static void undo() {
        SentenceKit.promise(28, "The latest MEAL is undone (with its numbers; FED, MAY as they were): how many are left;");
        PlateVote x = CheckKit.told(STORMY);
        x.meals(3);
        int[] storms = {x.log(0, 3), x.log(1, 3), x.log(2, 3)};
        CheckKit.due("two left", x.undo(), 2);
        CheckKit.due("one left", x.undo(), 1);
        CheckKit.due("none left", x.undo(), 0);
        x.meals(3);
        for (int t = 0; t < 3; t++) {
            CheckKit.due("the same numbers", x.log(t, 3), storms[t]);
        }
        x.fed(1);
        x.truth(1);
        x.meals(1);
        x.fed(2);
        x.truth(0);
        x.undo();
        CheckKit.due("a is fed", x.look(0, 4), 1);
        CheckKit.due("b isn't", x.look(1, 4), 0);
        CheckKit.due("the hidden one is aboard", x.look(2, 0), 1);
        x.undo();
        CheckKit.due("all were fed", x.look(1, 4), 1);
        CheckKit.due("he wasn't", x.look(2, 0), 0);
        x = CheckKit.told("sea 5 5;ship 2 2;bahia 1 2;soup 9;gale 0 1 9;mouth a 2 loses 2 course=3;mouth b 3 from 1 course=1;");
        x.meals(2);
        CheckKit.due("a leapt", x.look(0, 3), 1);
        x.undo();
        CheckKit.due("a is back", x.look(0, 0), 1);
        CheckKit.due("lost once", x.look(0, 2), 1);
        CheckKit.due("the soup", x.ship(2), 7);
        CheckKit.due("the ship", x.ship(0), 13);
        x.undo();
        CheckKit.due("lost never", x.look(0, 2), 0);
        CheckKit.due("the soup", x.ship(2), 9);
        CheckKit.due("the ship", x.ship(0), 12);
        x.meals(60);
        x.undo();
        CheckKit.due("the last one, too", x.count(6), 59);
        CheckKit.due("held again", x.meals(1), 60);

        SentenceKit.promise(28, "NONE: none.");
        x = CheckKit.told(STORMY);
        CheckKit.due("none yet", x.undo(), -1);
        x.meals(0);
        CheckKit.due("none yet", x.undo(), -1);
        x.meals(60);
        for (int k = 0; k < 20; k++) {
            x.undo();
        }
        String before = voyage(x);
        CheckKit.due("all undone", x.undo(), -1);
        CheckKit.due("all stays", voyage(x).equals(before), true);
        CheckKit.due("meal 40", x.count(6), 40);
        x.keep();
        x.meals(1);
        x.back();
        CheckKit.due("none behind back()", x.undo(), -1);
    }

    private static void keep() {
        SentenceKit.promise(29, "An IMAGE is kept (in place of one ahead): which MEAL is next.");
        PlateVote x = CheckKit.told(STORMY);
        CheckKit.due("the first", x.keep(), 0);
        x.meals(5);
        CheckKit.due("the fifth", x.keep(), 5);
        CheckKit.due("what can be undone stays", x.count(9), 5);
        x.meals(2);
        CheckKit.due("that one", x.back(), 5);
        CheckKit.due("still that one", x.back(), 5);
        x.meals(55);
        CheckKit.due("behind all", x.keep(), 60);
        x.undo();
        CheckKit.due("behind all", x.back(), 60);
        x = CheckKit.told(STORMY);
        x.meals(3);
        x.keep();
        x.undo();
        CheckKit.due("an earlier one", x.keep(), 2);
        x.meals(4);
        CheckKit.due("an earlier one", x.back(), 2);
    }

    private static void back() {
        SentenceKit.promise(30, "All (but NOTES) is as in the IMAGE (nothing to undo then): which MEAL is next;");
        PlateVote x = CheckKit.told(STORMY);
        x.meals(30);
        x.keep();
        String before = voyage(x);
        x.meals(7);
        CheckKit.due("meal 30", x.back(), 30);
        CheckKit.due("as it was", voyage(x).equals(before), true);
        CheckKit.due("nothing to undo", x.count(9), 0);
        CheckKit.due("nothing to undo", x.undo(), -1);
        x.meals(2);
        CheckKit.due("two since", x.count(9), 2);
        CheckKit.due("one left", x.undo(), 1);
        CheckKit.due("none left", x.undo(), 0);
        CheckKit.due("not behind the image", x.undo(), -1);
        CheckKit.due("as it was", voyage(x).equals(before), true);
        x.meals(1);
        x.taken(30, 0);
        x.washed(0, 5);
        x.back();
        CheckKit.due("notes stay", x.count(7), 2);
        CheckKit.due("of a meal that isn't gone by", x.fraud(), 0);

        SentenceKit.promise(30, "NONE: there is none.");
        x = CheckKit.told(STORMY);
        x.meals(2);
        before = voyage(x);
        CheckKit.due("none", x.back(), -1);
        CheckKit.due("all stays", voyage(x).equals(before), true);
        CheckKit.due("all stays", x.count(9), 2);
        x.keep();
        CheckKit.tell(x, "soup");
        CheckKit.due("a text with a fault leaves it", x.back(), 2);
        CheckKit.tell(x, STORMY);
        CheckKit.due("none with a text", x.back(), -1);
    }

    private static void count() {
        SentenceKit.promise(31, "0 WIDE, 1 HIGH, 2 MOUTHS (without MAY), 3 MAY, 4 ISLES, 5 KNOTS, 6 the MEAL that is next, 7 NOTES, 8 by how many it is KNOWN, "
                + "9 what can be undone, 10 ABOARD.");
        PlateVote x = CheckKit.told("sea 7 8;mouth a 2 from 1 1+2;mouth b 1 3;mouth c 1 till 0 1;may m 1 odds 1 not 1;may n 1 odds 1 1;isle i 1 1 1 1;");
        int[][] want = {{7, 8, 3, 2, 1, 8, 0, 0, 0, 0, 2}, {7, 8, 3, 2, 1, 8, 3, 3, 3, 3, 3}, {7, 8, 3, 2, 1, 8, 60, 3, 2, 20, 0}};
        for (int k = 0; k < want.length; k++) {
            if (k == 1) {
                x.meals(3);
                x.taken(0, 0);
                x.washed(0, 0);
                x.strike(0);
                x.truth(2);
            }
            if (k == 2) {
                x.known(2);
                x.meals(57);
            }
            for (int what = 0; what < want[k].length; what++) {
                CheckKit.due("count " + what + ", the " + k + "th time", x.count(what), want[k][what]);
            }
        }
        x = CheckKit.told("mouth a 1 1;mouth b 1 1;mouth c 1 1;mouth d 1 1;mouth e 1 1;may f 1 odds 1 1;may g 1 odds 1 1;may h 1 odds 1 1;may i 1 odds 1 1;"
                + "isle a 1 1 1 1;isle b 1 1 1 1;isle c 1 1 1 1;");
        x.truth(15);
        CheckKit.due("mouths", x.count(2), 5);
        CheckKit.due("may", x.count(3), 4);
        CheckKit.due("isles", x.count(4), 3);
        CheckKit.due("all aboard", x.count(10), 9);
        x.fed(0);
        CheckKit.due("though not fed", x.count(10), 9);

        SentenceKit.promise(31, "NONE for another what.");
        CheckKit.due("what 11", x.count(11), -1);
        CheckKit.due("what -1", x.count(-1), -1);
        for (int wild : CallEdgesKit.WILD) {
            CheckKit.due("what " + wild, x.count(wild), -1);
        }
    }
}
