/** Promises 19 to 26: notes, what is struck, what is known, who can be aboard, fraud. */
public final class NotesTest {
    private static final String TWO = "sea 8 1;ship 4 0;wind 1;mouth a 2 course=1;may b 3 odds 25 course=3;may c 1 odds 50 course=3;";

    public static void main(String[] args) {
        numbers();
        full();
        struck();
        fits();
        fedThen();
        odds();
        fraud();
        undone();
        stormy();
        CheckKit.end();
    }

    private static void numbers() {
        PlateVote x = CheckKit.told(TWO);
        CheckKit.due("no meal yet", x.taken(0, 1), -1);
        CheckKit.due("no meal yet", x.washed(0, 1), -1);
        CheckKit.due("no note yet", x.strike(0), -1);
        x.meals(2);
        CheckKit.due("taken", x.taken(1, 3), 0);
        CheckKit.due("washed", x.washed(0, 99), 1);
        CheckKit.due("strike", x.strike(1), 2);
        CheckKit.due("strike of a strike", x.strike(2), 3);
        CheckKit.due("course 4", x.taken(0, 4), -1);
        CheckKit.due("course -1", x.taken(0, -1), -1);
        CheckKit.due("meal 2", x.taken(2, 1), -1);
        CheckKit.due("meal -1", x.taken(-1, 1), -1);
        CheckKit.due("plates 100", x.washed(0, 100), -1);
        CheckKit.due("plates -1", x.washed(0, -1), -1);
        CheckKit.due("meal 2", x.washed(2, 0), -1);
        CheckKit.due("note 4", x.strike(4), -1);
        CheckKit.due("note -1", x.strike(-1), -1);
        CheckKit.due("plates 0", x.washed(0, 0), 4);
        CheckKit.due("five", x.count(7), 5);
        CheckKit.due("known by 6", x.known(6), false);
        CheckKit.due("known by -2", x.known(-2), false);
        CheckKit.due("known by all", x.count(8), 5);
        CheckKit.due("known by 5", x.known(5), true);
        x.strike(4);
        CheckKit.due("not by those to come", x.count(8), 5);
        CheckKit.due("known by all", x.known(-1), true);
        x.strike(4);
        CheckKit.due("by those to come", x.count(8), 7);
    }

    private static void full() {
        PlateVote x = CheckKit.told(TWO);
        x.meals(1);
        for (int k = 0; k < 32; k++) {
            CheckKit.due("note", k % 2 == 0 ? x.taken(0, 1) : x.washed(0, 2), k);
        }
        CheckKit.due("33rd", x.taken(0, 1), -1);
        CheckKit.due("33rd", x.washed(0, 1), -1);
        CheckKit.due("33rd", x.strike(0), -1);
        CheckKit.due("32", x.count(7), 32);
        CheckKit.due("known by 32", x.known(32), true);
        CheckKit.due("all so", x.fraud(), -1);
    }

    private static void struck() {
        PlateVote x = CheckKit.told(TWO);
        x.meals(1);
        x.taken(0, 0);
        CheckKit.due("0 is false", x.fraud(), 0);
        x.strike(0);
        CheckKit.due("struck", x.fraud(), -1);
        x.strike(1);
        CheckKit.due("the strike is struck", x.fraud(), 0);
        x.strike(2);
        CheckKit.due("the strike's strike is struck", x.fraud(), -1);
        int[] first = {-1, 0, -1, 0, -1};
        for (int n = 0; n < first.length; n++) {
            x.known(n);
            CheckKit.due("known by " + n, x.fraud(), first[n]);
            CheckKit.due("fits by " + n, x.fits(), first[n] == 0 ? 0 : 15);
        }
        x.known(-1);
        x.strike(0);
        x.strike(1);
        CheckKit.due("another strike of 0 counts", x.fraud(), -1);
    }

    private static void fits() {
        PlateVote x = CheckKit.told(TWO);
        CheckKit.due("all", x.fits(), 15);
        CheckKit.due("open", x.sure(0), 2);
        x.meals(1);
        x.taken(0, 1);
        // Without b two plates go right against one at most.
        CheckKit.due("not with b", x.fits(), 5);
        CheckKit.due("b in none", x.sure(0), 0);
        CheckKit.due("c open", x.sure(1), 2);
        x.washed(0, 3);
        CheckKit.due("with c alone", x.fits(), 4);
        CheckKit.due("c in all", x.sure(1), 1);
        x.washed(0, 4);
        CheckKit.due("nothing", x.fits(), 0);
        CheckKit.due("nothing", x.sure(1), -2);
        CheckKit.due("may 2", x.sure(2), -1);
        CheckKit.due("may -1", x.sure(-1), -1);
        CheckKit.due("truth does not count", x.truth(3), true);
        x.known(1);
        CheckKit.due("by the first note", x.fits(), 5);
        CheckKit.due("no may at all", new PlateVote().fits(), 1);
        CheckKit.due("no may at all", new PlateVote().sure(0), -1);
    }

    /** Meals are held again with those FED who were, by a hidden one aboard all along. */
    private static void fedThen() {
        PlateVote x = CheckKit.told("sea 8 1;ship 4 0;wind 1;mouth a 2 course=1;may b 1 odds 25 loses 2 course=3;");
        x.meals(1);
        x.fed(0);
        x.meals(1);
        x.fed(1);
        x.meals(1);
        x.washed(1, 0);
        CheckKit.due("nobody else was fed", x.fits(), 1);
        x.strike(0);
        x.washed(1, 1);
        CheckKit.due("a hidden one always is", x.fits(), 2);
        x.taken(2, 1);
        x.washed(2, 3);
        CheckKit.due("and did not leap, having won", x.fits(), 2);
        x = CheckKit.told("sea 8 1;ship 4 0;wind 1;mouth a 2 course=1;may b 1 odds 25 loses 2 course=3;");
        x.truth(1);
        x.meals(3);
        x.washed(2, 2);
        CheckKit.due("he leapt", x.fits(), 3);
    }

    private static void odds() {
        PlateVote x = CheckKit.told(TWO);
        CheckKit.due("b above", x.odds(0, 0), 1);
        CheckKit.due("b below", x.odds(0, 1), 4);
        CheckKit.due("c below", x.odds(1, 1), 2);
        x.meals(1);
        x.washed(0, 2);
        x.strike(0);
        x.taken(0, 3);
        CheckKit.due("with b", x.fits(), 10);
        CheckKit.due("b sure", x.odds(0, 0), 1);
        CheckKit.due("b sure", x.odds(0, 1), 1);
        CheckKit.due("c above", x.odds(1, 0), 1);
        CheckKit.due("c below", x.odds(1, 1), 2);
        x.taken(0, 1);
        CheckKit.due("nothing fits", x.odds(0, 0), 0);
        CheckKit.due("nothing fits", x.odds(0, 1), 1);
        x.strike(2);
        CheckKit.due("without b", x.odds(0, 0), 0);
        CheckKit.due("without b", x.odds(0, 1), 1);
        CheckKit.due("what 2", x.odds(0, 2), -1);
        CheckKit.due("what -1", x.odds(0, -1), -1);
        CheckKit.due("may 2", x.odds(2, 0), -1);
        CheckKit.due("may -1", x.odds(-1, 0), -1);
        // Either or neither: 99*1 : 1*99 : 1*1 of 199.
        x = CheckKit.told("may a 1 odds 99 1;may b 1 odds 1 1;may c 1 odds 99 1;may d 1 odds 99 1;");
        CheckKit.due("great numbers", x.odds(3, 1), 100);
        x.meals(1);
        x.washed(0, 1);
        // One alone: 99*99*1*1, 1*1*1*1, 99*99, 99*99 by what they have in common.
        CheckKit.due("one alone", x.odds(1, 0), 1);
        CheckKit.due("one alone", x.odds(1, 1), 29404);
        CheckKit.due("one alone", x.odds(0, 0), 9801);
    }

    private static void fraud() {
        PlateVote x = CheckKit.told(TWO);
        x.truth(1);
        x.meals(2);
        x.washed(0, 5);
        x.taken(1, 3);
        CheckKit.due("none", x.fraud(), -1);
        x.taken(1, 1);
        x.washed(0, 4);
        CheckKit.due("the first, not the first meal's", x.fraud(), 2);
        x.strike(2);
        CheckKit.due("the next", x.fraud(), 3);
        x.known(3);
        CheckKit.due("known by three", x.fraud(), 2);
        x.known(0);
        CheckKit.due("nothing known", x.fraud(), -1);
    }

    private static void undone() {
        PlateVote x = CheckKit.told(TWO);
        x.keep();
        x.meals(2);
        x.taken(0, 1);
        x.taken(1, 1);
        CheckKit.due("so", x.fraud(), -1);
        x.undo();
        CheckKit.due("undone", x.fraud(), 1);
        CheckKit.due("so under no set", x.fits(), 0);
        CheckKit.due("not gone by", x.washed(1, 2), -1);
        x.meals(1);
        CheckKit.due("held again", x.fraud(), -1);
        CheckKit.due("held again", x.fits(), 5);
        x.back();
        CheckKit.due("behind the image", x.fraud(), 0);
        CheckKit.due("notes stay", x.count(7), 2);
    }

    private static void stormy() {
        // Numbers of seed 1: a storm down at meal 0, left at meal 1, none at meal 2.
        PlateVote x = CheckKit.told("sea 8 8;ship 4 4;seed 1;storm 50 5;may m 6 odds 10 course=1;");
        x.meals(3);
        x.taken(1, 3);
        x.taken(2, 0);
        CheckKit.due("the same numbers for each set", x.fits(), 1);
    }
}
