/** The edges of NOTES and of what follows from them: the Terms' third part, promises 19 to 26. */
final class NoteEdgesKit {
    /** a goes right with 2, b and c left with 3 and 1; the wind goes right. */
    private static final String TWO = "sea 8 1;ship 4 0;wind 1;mouth a 2 course=1;may b 3 odds 25 course=3;may c 1 odds 50 course=3;";

    private NoteEdgesKit() {
    }

    static void run() {
        notesTerms();
        knownTerms();
        fitsTerms();
        oddsTerms();
        fraudTerms();
        taken();
        washed();
        strike();
        known();
        fits();
        sure();
        odds();
        fraud();
    }

    private static PlateVote after(int meals) {
        PlateVote x = CheckKit.told(TWO);
        x.meals(meals);
        return x;
    }

    private static void notesTerms() {
        SentenceKit.terms("NOTES, at most 32, numbered from 0 on: a COURSE was TAKEN at a MEAL gone by; so many plates were WASHED behind it. A STRIKE of one.");
        PlateVote x = after(2);
        for (int k = 0; k < 32; k++) {
            CheckKit.due("of these", x.count(7), k);
            int number = k % 3 == 0 ? x.taken(k % 2, 1) : k % 3 == 1 ? x.washed(k % 2, 2) : x.strike(k - 1);
            CheckKit.due("note " + k, number, k);
        }
        CheckKit.due("a 33rd", x.taken(0, 1), -1);
        CheckKit.due("a 33rd", x.washed(0, 2), -1);
        CheckKit.due("a 33rd", x.strike(0), -1);
        CheckKit.due("of these", x.count(7), 32);
        x = after(1);
        x.taken(0, 1);
        x.washed(0, 2);
        CheckKit.due("both so", x.fraud(), -1);
        x.taken(0, 2);
        CheckKit.due("not the course", x.fraud(), 2);
        x = after(1);
        x.washed(0, 1);
        CheckKit.due("not the plates", x.fraud(), 0);
    }

    private static void knownTerms() {
        SentenceKit.terms("KNOWN by n (all at first): the first n that aren't STRUCK by one of these (a STRIKE may be STRUCK: then it doesn't count; "
                + "asked from the last one on).");
        PlateVote x = after(1);
        x.taken(0, 0);
        CheckKit.due("all at first", x.fraud(), 0);
        // Each strikes the one ahead of it: the first one stands by every second of them.
        for (int k = 1; k < 32; k++) {
            x.strike(k - 1);
            CheckKit.due("struck " + k + " times in a row", x.fraud(), k % 2 == 0 ? 0 : -1);
        }
        for (int n = 0; n <= 32; n++) {
            x.known(n);
            CheckKit.due("known by " + n, x.fraud(), n % 2 == 1 ? 0 : -1);
        }
        x = after(1);
        x.taken(0, 0);
        x.taken(0, 2);
        x.strike(0);
        x.strike(0);
        x.strike(2);
        int[] want = {-1, 0, 0, 1, 1, 1};
        for (int n = 0; n < want.length; n++) {
            x.known(n);
            CheckKit.due("struck twice, once undone: by " + n, x.fraud(), want[n]);
        }
        x.known(-1);
        x.strike(3);
        CheckKit.due("now neither counts", x.fraud(), 0);
        x.strike(5);
        CheckKit.due("now the second does", x.fraud(), 1);
        x.strike(1);
        CheckKit.due("both struck", x.fraud(), -1);
        CheckKit.due("both struck", x.fits(), 15);
        x = new PlateVote();
        x.meals(1);
        x.taken(0, 1);
        CheckKit.due("all at first, without a text", x.count(8), 1);
        CheckKit.due("all at first, without a text", x.fraud(), 0);
        CheckKit.due("all at first, without a text", x.fits(), 0);
        // A strike behind n strikes nothing.
        x = after(1);
        x.taken(0, 0);
        x.strike(0);
        x.known(1);
        CheckKit.due("behind it", x.fraud(), 0);
        CheckKit.due("behind it", x.fits(), 0);
    }

    private static void fitsTerms() {
        SentenceKit.terms("FITS: which MAY can be (sets as bits; bits of these): by these ABOARD from MEAL 0 on, FED as they were, all KNOWN ones are so.");
        PlateVote x = after(1);
        int[] eaten = {2, 5, 3, 6};
        for (int plates = 0; plates <= 7; plates++) {
            x.washed(0, plates);
            int due = 0;
            for (int set = 0; set < 4; set++) {
                due |= eaten[set] == plates ? 1 << set : 0;
            }
            CheckKit.due(plates + " plates", x.fits(), due);
            x.strike(2 * plates);
        }
        CheckKit.due("all struck", x.fits(), 15);
        x.taken(0, 3);
        CheckKit.due("left: with b", x.fits(), 10);
        x.washed(0, 5);
        CheckKit.due("five plates as well", x.fits(), 2);
        // Asked again behind what is undone, and behind an image.
        x = after(2);
        x.keep();
        x.washed(0, 5);
        CheckKit.due("b", x.fits(), 2);
        x.undo();
        CheckKit.due("still b", x.fits(), 2);
        x.undo();
        CheckKit.due("of no meal", x.fits(), 0);
        x.back();
        CheckKit.due("b again", x.fits(), 2);
        x.fed(0);
        x.truth(3);
        CheckKit.due("whoever is fed and aboard now", x.fits(), 2);
        // They are aboard from the first meal on, whatever truth() says.
        x = CheckKit.told("sea 8 1;ship 4 0;wind 1;mouth a 2 course=1;may b 1 odds 25 loses 2 course=3;");
        x.meals(2);
        x.truth(1);
        x.meals(1);
        CheckKit.due("eaten", x.log(2, 1), 3);
        x.washed(2, 3);
        CheckKit.due("he would have leapt", x.fits(), 0);
        CheckKit.due("yet so it was", x.fraud(), -1);
        // FED as it was at each meal.
        x = CheckKit.told("sea 8 1;ship 4 0;wind 1;mouth a 2 course=1;mouth b 3 course=1;may c 1 odds 25 course=3;");
        int[] fed = {0, 1, 2, 3};
        int[] plates = {0, 2, 3, 5};
        for (int bits : fed) {
            x.fed(bits);
            x.meals(1);
        }
        x.fed(0);
        for (int t = 0; t < 4; t++) {
            x.washed(t, plates[t]);
        }
        CheckKit.due("without c", x.fits(), 1);
        for (int t = 0; t < 4; t++) {
            x.strike(t);
            x.washed(t, plates[t] + 1);
        }
        CheckKit.due("with c", x.fits(), 2);
        // Each set has the text's numbers: the storm goes down, then left, then it is calm.
        x = CheckKit.told("sea 8 8;ship 4 4;seed 1;storm 50 5;may m 6 odds 10 course=1;");
        x.meals(3);
        int[] storms = {2, 3, 0};
        for (int t = 0; t < 3; t++) {
            x.taken(t, storms[t]);
        }
        CheckKit.due("nobody, by the same storms", x.fits(), 1);
        x = CheckKit.told("may a 1 odds 1 1;may b 2 odds 1 1;may c 4 odds 1 1;may d 8 odds 1 1;");
        CheckKit.due("sixteen sets", x.fits(), 65535);
        x.meals(1);
        for (int set = 0; set < 16; set++) {
            x.washed(0, set);
            CheckKit.due("set " + set, x.fits(), 1 << set);
            x.strike(x.count(7) - 1);
        }
    }

    private static void oddsTerms() {
        SentenceKit.terms("SURE, ODDS of a MAY: as FITS have it; a set by the product of odds, and of a hundred less them for those that aren't.");
        PlateVote x = CheckKit.told("may a 1 odds 20 1;may b 1 odds 30 1;");
        x.meals(1);
        x.washed(0, 1);
        // a alone 20 * 70, b alone 80 * 30.
        CheckKit.due("a above", x.odds(0, 0), 7);
        CheckKit.due("a below", x.odds(0, 1), 19);
        CheckKit.due("b above", x.odds(1, 0), 12);
        CheckKit.due("b below", x.odds(1, 1), 19);
        CheckKit.due("open", x.sure(0), 2);
        x.strike(0);
        x.washed(0, 2);
        CheckKit.due("both", x.sure(0) * 10 + x.sure(1), 11);
        CheckKit.due("both", x.odds(0, 0) * 10 + x.odds(0, 1), 11);
        x.strike(2);
        x.washed(0, 0);
        CheckKit.due("neither", x.sure(0) * 10 + x.sure(1), 0);
        CheckKit.due("neither", x.odds(1, 0) * 10 + x.odds(1, 1), 1);
        // The greatest numbers: 97 of each against 3.
        x = CheckKit.told("may a 1 odds 97 1;may b 1 odds 97 1;may c 1 odds 97 1;may d 1 odds 97 1;");
        x.meals(1);
        x.washed(0, 3);
        CheckKit.due("three of four", x.odds(2, 0), 3);
        CheckKit.due("three of four", x.odds(2, 1), 4);
        x = CheckKit.told("may a 2 odds 97 1;may b 2 odds 89 1;may c 2 odds 83 1;may d 2 odds 79 1;");
        x.meals(1);
        CheckKit.due("the first alone", x.odds(0, 0), 97);
        CheckKit.due("the first alone", x.odds(0, 1), 100);
        x.washed(0, 6);
        long[] odds = {97, 89, 83, 79};
        long all = 0;
        long[] without = new long[4];
        for (int i = 0; i < 4; i++) {
            without[i] = 100 - odds[i];
            for (int k = 0; k < 4; k++) {
                without[i] *= k == i ? 1 : odds[k];
            }
            all += without[i];
        }
        for (int i = 0; i < 4; i++) {
            long common = java.math.BigInteger.valueOf(all - without[i]).gcd(java.math.BigInteger.valueOf(all)).longValue();
            CheckKit.due("all but one, above of " + i, x.odds(i, 0), (all - without[i]) / common);
            CheckKit.due("all but one, below of " + i, x.odds(i, 1), all / common);
        }
    }

    private static void fraudTerms() {
        SentenceKit.terms("FRAUD: the first KNOWN one that isn't so as it went (one of a MEAL undone since isn't so).");
        PlateVote x = after(3);
        x.taken(2, 1);
        x.washed(1, 2);
        x.taken(0, 1);
        CheckKit.due("all so", x.fraud(), -1);
        x.washed(2, 3);
        x.washed(0, 1);
        CheckKit.due("the first one, not the first meal's", x.fraud(), 3);
        x.strike(3);
        CheckKit.due("the next", x.fraud(), 4);
        x.strike(4);
        CheckKit.due("none", x.fraud(), -1);
        x.undo();
        CheckKit.due("of a meal undone", x.fraud(), 0);
        CheckKit.due("no set has it", x.fits(), 0);
        x.strike(0);
        CheckKit.due("of those gone by", x.fraud(), -1);
        CheckKit.due("of those gone by", x.fits(), 1);
        x.undo();
        CheckKit.due("of another undone", x.fraud(), 1);
        // As it went, not as it would now.
        x = after(1);
        x.truth(1);
        x.fed(0);
        x.meals(1);
        x.washed(0, 2);
        x.washed(1, 3);
        x.taken(1, 3);
        CheckKit.due("as it went", x.fraud(), -1);
        x.truth(0);
        x.fed(1);
        CheckKit.due("as it went", x.fraud(), -1);
    }

    private static void taken() {
        SentenceKit.promise(19, "A NOTE of a COURSE: its number;");
        PlateVote x = after(3);
        for (int c = 0; c < 4; c++) {
            CheckKit.due("course " + c, x.taken(c % 3, c), c);
        }
        CheckKit.due("the same again", x.taken(0, 0), 4);
        x = after(60);
        CheckKit.due("the last meal", x.taken(59, 0), 0);
        CheckKit.due("the first meal", x.taken(0, 0), 1);

        SentenceKit.promise(19, "NONE: no such ones (the MEAL isn't gone by), or there are 32.");
        CheckKit.due("no meal yet", after(0).taken(0, 1), -1);
        x = after(3);
        CheckKit.due("the next", x.taken(3, 1), -1);
        CheckKit.due("below", x.taken(-1, 1), -1);
        CheckKit.due("course 4", x.taken(0, 4), -1);
        CheckKit.due("course -1", x.taken(0, -1), -1);
        CheckKit.due("meal 60", after(60).taken(60, 1), -1);
        for (int wild : CallEdgesKit.WILD) {
            CheckKit.due("meal " + wild, x.taken(wild, 1), -1);
            CheckKit.due("course " + wild, x.taken(0, wild), -1);
        }
        x.undo();
        CheckKit.due("undone", x.taken(2, 1), -1);
        CheckKit.due("none was", x.count(7), 0);
        for (int k = 0; k < 32; k++) {
            CheckKit.due("note " + k, x.taken(1, 1), k);
        }
        CheckKit.due("there are 32", x.taken(1, 1), -1);
        CheckKit.due("there are 32", x.count(7), 32);
    }

    private static void washed() {
        SentenceKit.promise(20, "A NOTE of plates 0 .. 99: its number;");
        PlateVote x = after(2);
        CheckKit.due("none", x.washed(0, 0), 0);
        CheckKit.due("two", x.washed(1, 2), 1);
        CheckKit.due("99", x.washed(0, 99), 2);
        CheckKit.due("50", x.washed(0, 50), 3);
        CheckKit.due("the last meal", after(60).washed(59, 0), 0);

        SentenceKit.promise(20, "NONE likewise.");
        CheckKit.due("no meal yet", after(0).washed(0, 1), -1);
        CheckKit.due("plates 100", x.washed(0, 100), -1);
        CheckKit.due("plates -1", x.washed(0, -1), -1);
        CheckKit.due("the next", x.washed(2, 1), -1);
        CheckKit.due("below", x.washed(-1, 1), -1);
        CheckKit.due("meal 60", after(60).washed(60, 1), -1);
        for (int wild : CallEdgesKit.WILD) {
            CheckKit.due("meal " + wild, x.washed(wild, 1), -1);
            CheckKit.due("plates " + wild, x.washed(0, wild), -1);
        }
        x.undo();
        CheckKit.due("undone", x.washed(1, 1), -1);
        for (int k = 4; k < 32; k++) {
            CheckKit.due("note " + k, x.washed(0, 1), k);
        }
        CheckKit.due("there are 32", x.washed(0, 1), -1);
        CheckKit.due("there are 32", x.count(7), 32);
    }

    private static void strike() {
        SentenceKit.promise(21, "A STRIKE: its number;");
        PlateVote x = after(1);
        x.taken(0, 1);
        CheckKit.due("a strike", x.strike(0), 1);
        CheckKit.due("again", x.strike(0), 2);
        CheckKit.due("of the last", x.strike(2), 3);
        CheckKit.due("of a strike that is struck", x.strike(2), 4);

        SentenceKit.promise(21, "NONE: no such NOTE, or there are 32.");
        CheckKit.due("none yet", after(1).strike(0), -1);
        CheckKit.due("not itself", x.strike(5), -1);
        CheckKit.due("below", x.strike(-1), -1);
        for (int wild : CallEdgesKit.WILD) {
            CheckKit.due("note " + wild, x.strike(wild), -1);
        }
        CheckKit.due("note 32", x.strike(32), -1);
        for (int k = 5; k < 32; k++) {
            CheckKit.due("note " + k, x.strike(k - 1), k);
        }
        CheckKit.due("there are 32", x.strike(0), -1);
        CheckKit.due("there are 32", x.strike(31), -1);
        CheckKit.due("there are 32", x.count(7), 32);
    }

    private static void known() {
        SentenceKit.promise(22, "KNOWN by n from now on (-1: by all, also those to come): true;");
        PlateVote x = after(1);
        CheckKit.due("none of none", x.known(0), true);
        CheckKit.due("all of none", x.known(-1), true);
        x.taken(0, 0);
        CheckKit.due("also those to come", x.fraud(), 0);
        CheckKit.due("by 0", x.known(0), true);
        CheckKit.due("nothing known", x.fraud(), -1);
        CheckKit.due("nothing known", x.fits(), 15);
        CheckKit.due("by 1", x.known(1), true);
        CheckKit.due("known", x.fraud(), 0);
        x.strike(0);
        CheckKit.due("from now on not those to come", x.fraud(), 0);
        CheckKit.due("by 2", x.known(2), true);
        CheckKit.due("struck", x.fraud(), -1);
        CheckKit.due("by all", x.known(-1), true);
        x.strike(1);
        CheckKit.due("also those to come", x.fraud(), 0);
        for (int k = 3; k < 32; k++) {
            x.taken(0, 1);
        }
        CheckKit.due("by 32", x.known(32), true);

        SentenceKit.promise(22, "false: no such n.");
        CheckKit.due("by 33", x.known(33), false);
        CheckKit.due("by -2", x.known(-2), false);
        for (int wild : CallEdgesKit.WILD) {
            CheckKit.due("by " + wild, x.known(wild), false);
        }
        CheckKit.due("as it was", x.count(8), 32);
        x = after(1);
        CheckKit.due("one of none", x.known(1), false);
        x.taken(0, 0);
        x.taken(0, 1);
        x.known(1);
        CheckKit.due("three of two", x.known(3), false);
        CheckKit.due("as it was", x.count(8), 1);
        CheckKit.due("two of two", x.known(2), true);
    }

    private static void fits() {
        SentenceKit.promise(23, "FITS (bits).");
        CheckKit.due("no may", new PlateVote().fits(), 1);
        CheckKit.due("one may", CheckKit.told("may a 1 odds 1 1;").fits(), 3);
        CheckKit.due("three", CheckKit.told("may a 1 odds 1 1;may b 1 odds 1 1;may c 1 odds 1 1;").fits(), 255);
        PlateVote x = CheckKit.told("mouth a 1 1;");
        x.meals(1);
        x.washed(0, 1);
        CheckKit.due("no may, and so", x.fits(), 1);
        x.washed(0, 2);
        CheckKit.due("no may, and not so", x.fits(), 0);
        x = CheckKit.told("soup 999;" + TWO);
        x.meals(60);
        x.washed(59, 3);
        CheckKit.due("by the last meal", x.fits(), 4);
        String before = CallEdgesKit.state(x);
        x.fits();
        CheckKit.due("it changes nothing", CallEdgesKit.state(x).equals(before), true);
        x = after(0);
        CheckKit.due("all ahead", x.fits(), 15);
        x.meals(1);
        x.washed(0, 5);
        CheckKit.due("by a new note", x.fits(), 2);
        x.strike(0);
        CheckKit.due("by its strike", x.fits(), 15);
        x.known(1);
        CheckKit.due("by what is known", x.fits(), 2);
        x.undo();
        CheckKit.due("by an undone meal", x.fits(), 0);
        x.fed(0);
        x.meals(1);
        CheckKit.due("held again, with nobody fed", x.fits(), 0);
        x.undo();
        x.fed(1);
        x.keep();
        CheckKit.due("undone again", x.fits(), 0);
        x.meals(1);
        CheckKit.due("held again", x.fits(), 2);
        x.back();
        CheckKit.due("back", x.fits(), 0);
        CheckKit.tell(x, TWO);
        CheckKit.due("another text", x.fits(), 15);
    }

    private static void sure() {
        SentenceKit.promise(24, "SURE of a MAY: 1 in all, 0 in none, 2 open;");
        PlateVote x = after(1);
        CheckKit.due("b open", x.sure(0), 2);
        CheckKit.due("c open", x.sure(1), 2);
        x.taken(0, 1);
        CheckKit.due("b in none", x.sure(0), 0);
        CheckKit.due("c open", x.sure(1), 2);
        x.strike(0);
        x.taken(0, 3);
        CheckKit.due("b in all", x.sure(0), 1);
        CheckKit.due("c open", x.sure(1), 2);
        x.washed(0, 6);
        CheckKit.due("b in all", x.sure(0), 1);
        CheckKit.due("c in all", x.sure(1), 1);

        SentenceKit.promise(24, "-2: nothing FITS;");
        x.washed(0, 7);
        CheckKit.due("b", x.sure(0), -2);
        CheckKit.due("c", x.sure(1), -2);

        SentenceKit.promise(24, "NONE: no such MAY (0 up).");
        CheckKit.due("may 2", x.sure(2), -1);
        CheckKit.due("may -1", x.sure(-1), -1);
        for (int wild : CallEdgesKit.WILD) {
            CheckKit.due("may " + wild, x.sure(wild), -1);
        }
        x.known(0);
        CheckKit.due("may 2", x.sure(2), -1);
        CheckKit.due("may -1", x.sure(-1), -1);
        CheckKit.due("no may", CheckKit.told("mouth a 1 1;").sure(0), -1);
        CheckKit.due("the fourth", CheckKit.told("may a 1 odds 1 1;may b 1 odds 1 1;may c 1 odds 1 1;may d 1 odds 1 1;").sure(3), 2);
        CheckKit.due("the fifth", CheckKit.told("may a 1 odds 1 1;may b 1 odds 1 1;may c 1 odds 1 1;may d 1 odds 1 1;").sure(4), -1);
    }

    private static void odds() {
        SentenceKit.promise(25, "ODDS of a MAY in least terms, what 0: the number above, 1: the one below (0 and 1, if nothing FITS).");
        PlateVote x = after(1);
        CheckKit.due("b above", x.odds(0, 0), 1);
        CheckKit.due("b below", x.odds(0, 1), 4);
        CheckKit.due("c above", x.odds(1, 0), 1);
        CheckKit.due("c below", x.odds(1, 1), 2);
        x.taken(0, 1);
        CheckKit.due("b in none, above", x.odds(0, 0), 0);
        CheckKit.due("b in none, below", x.odds(0, 1), 1);
        x.taken(0, 3);
        for (int i = 0; i < 2; i++) {
            CheckKit.due("nothing, above", x.odds(i, 0), 0);
            CheckKit.due("nothing, below", x.odds(i, 1), 1);
        }
        x.strike(0);
        CheckKit.due("b in all, above", x.odds(0, 0), 1);
        CheckKit.due("b in all, below", x.odds(0, 1), 1);

        SentenceKit.promise(25, "NONE: no such ones.");
        for (int what = 0; what < 2; what++) {
            CheckKit.due("may 2", x.odds(2, what), -1);
            CheckKit.due("may -1", x.odds(-1, what), -1);
            for (int wild : CallEdgesKit.WILD) {
                CheckKit.due("may " + wild, x.odds(wild, what), -1);
            }
        }
        CheckKit.due("what 2", x.odds(0, 2), -1);
        CheckKit.due("what -1", x.odds(0, -1), -1);
        for (int wild : CallEdgesKit.WILD) {
            CheckKit.due("what " + wild, x.odds(0, wild), -1);
        }
        x.taken(0, 0);
        CheckKit.due("nothing fits, what 2", x.odds(0, 2), -1);
        CheckKit.due("nothing fits, may 2", x.odds(2, 1), -1);
        CheckKit.due("no may", CheckKit.told("mouth a 1 1;").odds(0, 0), -1);
    }

    private static void fraud() {
        SentenceKit.promise(26, "FRAUD; NONE: there is none.");
        PlateVote x = after(1);
        CheckKit.due("no note", x.fraud(), -1);
        x.taken(0, 1);
        CheckKit.due("all so", x.fraud(), -1);
        for (int k = 1; k < 31; k++) {
            x.washed(0, 2);
        }
        x.washed(0, 3);
        CheckKit.due("the last of 32", x.fraud(), 31);
        x.known(31);
        CheckKit.due("not known", x.fraud(), -1);
    }
}
