import java.util.NoSuchElementException;

/** Promises 6 to 18 and 27 to 31: what there is, meals, plans, power, tried otherwise, undone, kept. */
public final class VoyageTest {
    public static void main(String[] args) {
        look();
        ship();
        farAndLand();
        wishes();
        law();
        values();
        votes();
        isles();
        fedAndTruth();
        soup();
        courses();
        storm();
        losers();
        meals();
        plan();
        power();
        tried();
        undo();
        image();
        count();
        CheckKit.end();
    }

    /** 1, 2 for what look threw, 0 if nothing. */
    private static int threw(PlateVote x, int mouth, int what) {
        try {
            x.look(mouth, what);
            return 0;
        } catch (IndexOutOfBoundsException e) {
            return 1;
        } catch (NoSuchElementException e) {
            return 2;
        }
    }

    private static void look() {
        PlateVote x = CheckKit.told("may m 4 odds 50 sick 0 0 1;mouth a 3 from 1 till 2 1;mouth b 2 sick 1 2 loses 1 course=3;");
        CheckKit.due("a is not aboard yet", x.look(0, 0), 0);
        CheckKit.due("b is aboard", x.look(1, 0), 1);
        CheckKit.due("m is not aboard", x.look(2, 0), 0);
        CheckKit.due("m is sick", x.look(2, 1), 0);
        CheckKit.due("m is fed", x.look(2, 4), 1);
        CheckKit.due("a's plates are told though he is not aboard", x.look(0, 1), 3);
        x.truth(1);
        x.fed(2);
        CheckKit.due("m is aboard", x.look(2, 0), 1);
        CheckKit.due("a is not fed", x.look(0, 4), 0);
        CheckKit.due("b is fed", x.look(1, 4), 1);
        x.meals(1);
        CheckKit.due("a is aboard from 1", x.look(0, 0), 1);
        CheckKit.due("b is sick", x.look(1, 1), 0);
        CheckKit.due("m is well", x.look(2, 1), 4);
        CheckKit.due("b won alone", x.look(1, 2), 0);
        x.meals(1);
        CheckKit.due("a is aboard till 2", x.look(0, 0), 1);
        x.meals(1);
        CheckKit.due("a has gone", x.look(0, 0), 0);
        CheckKit.due("b is well again", x.look(1, 1), 2);
        x.meals(57);
        CheckKit.due("nobody is aboard behind the last meal", x.look(2, 0), 0);
        CheckKit.due("mouth -1", threw(x, -1, 0), 1);
        CheckKit.due("mouth 3", threw(x, 3, 0), 1);
        CheckKit.due("mouth and what", threw(x, 3, 9), 1);
        CheckKit.due("what 5", threw(x, 0, 5), 2);
        CheckKit.due("what -1", threw(x, 2, -1), 2);
        CheckKit.due("no mouths", threw(new PlateVote(), 0, 0), 1);
    }

    private static void ship() {
        PlateVote x = CheckKit.told("sea 5 1;ship 1 0;bahia 3 0;wind 1 1 3 1;soup 7;");
        CheckKit.due("cell", x.ship(0), 1);
        CheckKit.due("bahia", x.ship(1), 3);
        CheckKit.due("soup", x.ship(2), 7);
        CheckKit.due("not at bahia", x.ship(3), -1);
        x.meals(1);
        CheckKit.due("not yet", x.ship(3), -1);
        x.meals(1);
        CheckKit.due("ahead of meal 2", x.ship(3), 2);
        x.meals(2);
        CheckKit.due("again at 3", x.ship(0), 3);
        CheckKit.due("the first time", x.ship(3), 2);
        x.undo();
        x.undo();
        CheckKit.due("undone behind it", x.ship(3), 2);
        x.undo();
        CheckKit.due("undone", x.ship(3), -1);
        CheckKit.due("what 4", x.ship(4), -1);
        CheckKit.due("what -1", x.ship(-1), -1);
        x = CheckKit.told("sea 1 2;bahia 0 1;gale 59 2 1;");
        CheckKit.due("all meals", x.meals(60), 60);
        CheckKit.due("behind the last meal", x.ship(3), 60);
    }

    private static void farAndLand() {
        PlateVote x = CheckKit.told("sea 3 3;land 1 0;land 1 1;");
        CheckKit.due("round the land", x.far(0, 2), 6);
        CheckKit.due("back", x.far(2, 0), 6);
        CheckKit.due("itself", x.far(0, 0), 0);
        CheckKit.due("to land", x.far(0, 1), 99);
        CheckKit.due("from land", x.far(1, 0), 99);
        CheckKit.due("land itself", x.far(1, 1), 99);
        CheckKit.due("no cell", x.far(9, 0), -1);
        CheckKit.due("no cell", x.far(0, 9), -1);
        CheckKit.due("no cell", x.far(-1, 0), -1);
        CheckKit.due("no cell", x.far(0, Integer.MAX_VALUE), -1);
        CheckKit.due("land", x.land(1), 1);
        CheckKit.due("water", x.land(0), 0);
        CheckKit.due("no cell", x.land(9), -1);
        CheckKit.due("no cell", x.land(-1), -1);
        x = CheckKit.told("sea 3 1;land 1 0;");
        CheckKit.due("no way", x.far(0, 2), 99);
        x = CheckKit.told("sea 8 8;");
        CheckKit.due("corners", x.far(0, 63), 14);
    }

    private static void wishes() {
        PlateVote x = CheckKit.told("sea 3 3;ship 1 1;bahia 2 0;land 1 0;mouth a 1 0;mouth b 1 course;mouth c 1 9-course;"
                + "mouth d 0 1;mouth e 2 sick 0 0 1;may m 1 odds 1 0-far;");
        CheckKit.due("the first but land", x.wish(0), 1);
        CheckKit.due("the last", x.wish(1), 3);
        CheckKit.due("the least but land", x.wish(2), 1);
        CheckKit.due("no plates", x.wish(3), -2);
        CheckKit.due("sick", x.wish(4), -2);
        CheckKit.due("not aboard", x.wish(5), -2);
        x.truth(1);
        CheckKit.due("to bahia", x.wish(5), 1);
        x.fed(6);
        CheckKit.due("not fed", x.wish(0), -2);
        CheckKit.due("no such one", x.wish(6), -1);
        CheckKit.due("no such one", x.wish(-1), -1);
        x.meals(60);
        CheckKit.due("no meal", x.wish(1), -1);
        x = CheckKit.told("mouth a 1 (course=2)*1/(course-2)+9*(course=1);");
        CheckKit.due("an error is 0", x.law(0, 2, 1), Long.MIN_VALUE);
        CheckKit.due("another is more", x.wish(0), 1);
        x = CheckKit.told("ship 1 1;mouth a 1 (course=2)*1/(course-2)-9*(course<>2);");
        CheckKit.due("an error is more than less than 0", x.wish(0), 2);
        x = CheckKit.told("sea 1 1;mouth a 1 loses 1 1;");
        CheckKit.due("nowhere to go", x.wish(0), -2);
        x.meals(2);
        CheckKit.due("he has not lost", x.look(0, 2), 0);
        CheckKit.due("but has eaten", x.ship(2), 98);
    }

    private static void law() {
        PlateVote x = CheckKit.told("sea 3 3;ship 1 1;bahia 0 0;land 0 1;soup 50;wind 3;"
                + "mouth a 1 sick 0 59 course+10*far+1000*windy+5000*meal+9*plates;mouth b 2 from 9 lost*100+stock;");
        CheckKit.due("up", x.law(0, 0, 0), 10);
        CheckKit.due("right", x.law(0, 1, 3), 1 + 30 + 27);
        CheckKit.due("land", x.law(0, 3, 0), 3 + 990 + 1000);
        CheckKit.due("not aboard", x.law(1, 0, 9), 50);
        CheckKit.due("plates 10", x.law(0, 0, 10), Long.MIN_VALUE);
        CheckKit.due("plates -1", x.law(0, 0, -1), Long.MIN_VALUE);
        CheckKit.due("course 4", x.law(0, 4, 1), Long.MIN_VALUE);
        CheckKit.due("course -1", x.law(0, -1, 1), Long.MIN_VALUE);
        CheckKit.due("mouth 2", x.law(2, 0, 1), Long.MIN_VALUE);
        CheckKit.due("mouth -1", x.law(-1, 0, 1), Long.MIN_VALUE);
        x = CheckKit.told("mouth a 1 5;");
        CheckKit.due("outside", x.law(0, 0, 1), Long.MIN_VALUE);
        CheckKit.due("inside", x.law(0, 1, 1), 5);
        x.meals(60);
        CheckKit.due("no meal", x.law(0, 1, 1), Long.MIN_VALUE);
    }

    private static void value(String law, long want) {
        CheckKit.due(law, CheckKit.told("ship 1 1;mouth a 1 " + law + ";").law(0, 1, 7), want);
    }

    private static void values() {
        value("2+3*4", 14);
        value("(2+3)*4", 20);
        value("10-3-2", 5);
        value("100/7/2", 7);
        value("7-20/3*2", -5);
        value("(0-7)/2", -3);
        value("7/(0-2)", -3);
        value("1/0", Long.MIN_VALUE);
        value("0 and 1/0", Long.MIN_VALUE);
        value("1 or 1/0", Long.MIN_VALUE);
        value("0*(1/0)", Long.MIN_VALUE);
        value("5 and 7", 1);
        value("5 and 0", 0);
        value("0 or 7", 1);
        value("0 or 0", 0);
        value("not 5", 0);
        value("not 0", 1);
        value("not not 5", 1);
        value("not 1 and 0", 0);
        value("not (1 and 0)", 1);
        value("not 1=2", 1);
        value("1 or 1 and 0", 1);
        value("(1 or 1) and 0", 0);
        value("1+1<2*2", 1);
        value("2<2", 0);
        value("2<=2", 1);
        value("2=2", 1);
        value("2<>2", 0);
        value("2>=3", 0);
        value("3>2", 1);
        value("(1<2)+(2<3)", 2);
        value("1000*1000*1000*1000", 1000000000000L);
        value("1000*1000*1000*1000+1", Long.MIN_VALUE);
        value("0-1000*1000*1000*1000", -1000000000000L);
        value("0-1000*1000*1000*1000-1", Long.MIN_VALUE);
        value("1000*1000*1000*1001", Long.MIN_VALUE);
        value("9999*9999*9999*(1-2)", -999700029999L);
        value("(1000*1000*1000*1000)*(1000*1000*1000*1000)", Long.MIN_VALUE);
        value("(1000*1000*1000*1000)*(1000*1000*1000*1000)*0", Long.MIN_VALUE);
        value("0*(1000*1000*1000*1000)", 0);
        value("4294*1000*1000*(4294*1000*1000)", Long.MIN_VALUE);
        value("plates", 7);
    }

    private static void votes() {
        PlateVote x = CheckKit.told("sea 3 3;ship 1 1;mouth a 3 course=1;mouth b 2 course=0;may c 4 odds 5 course=0;"
                + "gale 0 3 6;gale 0 3 1;gale 1 2 99;storm 99 99;");
        int[] want = {2, 3, 0, 7};
        for (int c = 0; c < 4; c++) {
            CheckKit.due("votes for " + c, x.votes(c), want[c]);
        }
        x.truth(1);
        CheckKit.due("with the hidden one", x.votes(0), 6);
        CheckKit.due("course 4", x.votes(4), -1);
        CheckKit.due("course -1", x.votes(-1), -1);
        x.meals(60);
        CheckKit.due("no meal", x.votes(0), -1);
    }

    private static void isles() {
        PlateVote x = CheckKit.told("sea 5 1;isle a 4 0 3 5;isle b 0 0 0 2;isle c 2 0 1 1;wind 1;");
        CheckKit.due("b sends away, c is too far", x.votes(1), 2);
        x.meals(1);
        CheckKit.due("a and c", x.votes(1), 6);
        CheckKit.due("none back", x.votes(3), 0);
        x.meals(1);
        CheckKit.due("a, and c the first", x.votes(1), 6);
        x = CheckKit.told("sea 3 3;isle a 2 1 9 4;land 1 0;land 1 1;ship 0 0;");
        CheckKit.due("by water", x.votes(2), 4);
        x = CheckKit.told("sea 3 1;isle a 2 0 9 4;land 1 0;");
        CheckKit.due("no way by water", x.votes(1), 0);
        x = CheckKit.told("sea 1 1;isle a 0 0 9 4;");
        CheckKit.due("nowhere to go", x.votes(0), 0);
        x = CheckKit.told("sea 3 1;land 0 0;isle a 1 0 9 4;");
        CheckKit.due("from land it is not near", x.votes(1), 0);
        CheckKit.due("law from land", x.ship(0), 0);
        x = CheckKit.told("sea 3 3;ship 1 1;isle a 0 0 4 4;");
        CheckKit.due("the first of several", x.votes(0), 4);
    }

    private static void fedAndTruth() {
        PlateVote x = CheckKit.told("mouth a 1 1;mouth b 1 1;may c 1 odds 1 1;may d 1 odds 1 1;may e 1 odds 1 1;");
        CheckKit.due("fed 3", x.fed(3), true);
        CheckKit.due("fed 0", x.fed(0), true);
        CheckKit.due("fed 4", x.fed(4), false);
        CheckKit.due("fed -1", x.fed(-1), false);
        CheckKit.due("fed stays", x.look(0, 4), 0);
        CheckKit.due("truth 7", x.truth(7), true);
        CheckKit.due("truth 8", x.truth(8), false);
        CheckKit.due("truth -8", x.truth(-8), false);
        CheckKit.due("truth stays", x.count(10), 5);
        CheckKit.due("hidden ones eat though nobody is fed", x.meals(1), 1);
        CheckKit.due("three plates", x.log(0, 1), 3);
        CheckKit.due("fed stays by meals", x.look(0, 4), 0);
    }

    private static void soup() {
        PlateVote x = CheckKit.told("ship 1 1;soup 7;mouth a 3 course=stock;mouth b 2 course=plates;mouth c 4 course=plates;mouth d 1 1;");
        CheckKit.due("c has what is left", x.wish(2), 2);
        CheckKit.due("d has none", x.wish(3), -2);
        CheckKit.due("four plates for 2", x.votes(2), 4);
        x.meals(1);
        CheckKit.due("all eaten", x.ship(2), 0);
        CheckKit.due("seven", x.log(0, 1), 7);
        x.meals(1);
        CheckKit.due("none", x.log(1, 1), 0);
        CheckKit.due("the wind's", x.log(1, 0), 0);
        x = CheckKit.told("ship 1 1;soup 7;mouth a 3 course=stock-4;mouth b 2 course=stock-4;");
        CheckKit.due("stock is ahead of the meal", x.wish(1), 3);
    }

    private static void courses() {
        PlateVote x = CheckKit.told("sea 2 2;land 1 0;wind 1 2 1 0;");
        x.meals(4);
        int[] course = {1, 2, 1, 0};
        int[] cell = {0, 2, 3, 3};
        for (int t = 0; t < 4; t++) {
            CheckKit.due("course " + t, x.log(t, 0), course[t]);
            CheckKit.due("cell " + t, x.log(t, 2), cell[t]);
            CheckKit.due("no storm " + t, x.log(t, 3), -1);
        }
        CheckKit.due("the wind's again", x.meals(1), 5);
        CheckKit.due("from the first", x.log(4, 0), 1);
        x = CheckKit.told("ship 1 1;mouth a 2 course=2;mouth b 2 course=1;");
        x.meals(1);
        CheckKit.due("the first of several", x.log(0, 0), 1);
        CheckKit.due("log what 4", x.log(0, 4), -1);
        CheckKit.due("log what -1", x.log(0, -1), -1);
        CheckKit.due("log of the next", x.log(1, 0), -1);
        CheckKit.due("log of -1", x.log(-1, 0), -1);
        x = CheckKit.told("gale 0 0 5;mouth a 4 course=1;");
        x.meals(1);
        CheckKit.due("a gale wins", x.log(0, 0), 0);
        CheckKit.due("to outside: it stays", x.ship(0), 0);
        CheckKit.due("he lost", x.look(0, 2), 1);
        x = CheckKit.told("land 0 0;mouth a 1 course=2;");
        x.meals(1);
        CheckKit.due("off the land", x.ship(0), 4);
        x.meals(1);
        CheckKit.due("down", x.ship(0), 8);
    }

    private static void storm() {
        // Numbers of seed 1, each modulo 100 or 4: 38 2 | 13 3 | 51 | 27 2 | 19 ..
        PlateVote x = CheckKit.told("sea 8 8;ship 4 4;seed 1;storm 50 5;");
        x.meals(4);
        int[] storm = {2, 3, -1, 2};
        int[] course = {2, 3, 0, 2};
        int[] cell = {44, 43, 35, 43};
        for (int t = 0; t < 4; t++) {
            CheckKit.due("storm " + t, x.log(t, 3), storm[t]);
            CheckKit.due("course " + t, x.log(t, 0), course[t]);
            CheckKit.due("cell " + t, x.log(t, 2), cell[t]);
        }
        x.undo();
        x.undo();
        x.meals(2);
        CheckKit.due("numbers are undone, too", x.log(3, 3), 2);
        CheckKit.due("none behind", x.log(2, 3), -1);
        x = CheckKit.told("sea 8 8;ship 4 4;seed 1;storm 50 5;mouth a 5 course=1;");
        x.meals(1);
        CheckKit.due("a storm as strong as the mouths", x.log(0, 0), 1);
        CheckKit.due("it came", x.log(0, 3), 2);
        x = CheckKit.told("seed 1;storm 38 5;");
        x.meals(1);
        CheckKit.due("not below it", x.log(0, 3), -1);
        x = CheckKit.told("seed 1;storm 39 5;");
        x.meals(1);
        CheckKit.due("below it", x.log(0, 3), 2);
    }

    private static void losers() {
        PlateVote x = CheckKit.told("sea 8 8;ship 4 4;mouth a 3 course=meal/3;mouth b 1 loses 2 sick 1 1 course=1;mouth c 1 loses 4 course=1;");
        x.meals(1);
        CheckKit.due("b lost", x.look(1, 2), 1);
        x.meals(1);
        CheckKit.due("who does not vote keeps it", x.look(1, 2), 1);
        CheckKit.due("c lost again", x.look(2, 2), 2);
        x.meals(1);
        CheckKit.due("b lost twice", x.look(1, 2), 2);
        CheckKit.due("b leapt", x.look(1, 3), 1);
        CheckKit.due("b is not aboard", x.look(1, 0), 0);
        CheckKit.due("c not", x.look(2, 3), 0);
        CheckKit.due("two are aboard", x.count(10), 2);
        x.meals(1);
        CheckKit.due("c has won", x.look(2, 2), 0);
        CheckKit.due("b keeps it", x.look(1, 2), 2);
        CheckKit.due("b does not vote", x.wish(1), -2);
        CheckKit.due("four plates", x.log(3, 1), 4);
    }

    private static void meals() {
        PlateVote x = new PlateVote();
        CheckKit.due("none", x.meals(0), 0);
        CheckKit.due("below", x.meals(-1), -1);
        CheckKit.due("61", x.meals(61), -1);
        CheckKit.due("59", x.meals(59), 59);
        CheckKit.due("two more", x.meals(2), -1);
        CheckKit.due("none was", x.count(6), 59);
        CheckKit.due("one more", x.meals(1), 60);
        CheckKit.due("none more", x.meals(0), 60);
        CheckKit.due("one too many", x.meals(1), -1);
        CheckKit.due("wild", x.meals(Integer.MAX_VALUE), -1);
    }

    private static void plan() {
        PlateVote x = CheckKit.told("sea 4 1;bahia 2 0;wind 3;mouth a 5 course=1;mouth b 2 course=1;mouth c 1 course=3;may m 1 odds 1 course=3;");
        CheckKit.due("c, who can only go right, then b", x.plan(2, -1), 3);
        CheckKit.due("c", x.plan(2, 0), 4);
        CheckKit.due("b", x.plan(2, 1), 2);
        CheckKit.due("no third", x.plan(2, 2), -2);
        CheckKit.due("three are no better", x.plan(3, -1), 3);
        CheckKit.due("nor longer", x.plan(3, 2), -2);
        CheckKit.due("one is too few", x.plan(1, -1), -2);
        CheckKit.due("one is too few", x.plan(1, 0), -2);
        CheckKit.due("what 3", x.plan(3, 3), -1);
        CheckKit.due("what -2", x.plan(3, -2), -1);
        CheckKit.due("n 0", x.plan(0, -1), -1);
        CheckKit.due("n 4", x.plan(4, -1), -1);
        x.truth(1);
        CheckKit.due("with the hidden one's", x.plan(2, -1), 4);
        CheckKit.due("who goes right alone", x.plan(2, 0), 0);
        CheckKit.due("nothing has happened", x.ship(2), 100);
        x.meals(57);
        CheckKit.due("three meals are left", x.plan(3, -1) == -1, false);
        x.meals(1);
        CheckKit.due("two meals are left", x.plan(3, -1), -1);
        x = CheckKit.told("mouth a 5 course=1;");
        CheckKit.due("there already", x.plan(3, -1), 0);
        CheckKit.due("without meals", x.plan(3, 0), -2);
        // A wind brings her in three meals for nothing, a mouth in two for a plate.
        x = CheckKit.told("sea 4 2;bahia 2 0;wind 2 1 1;gale 2 0 9;mouth a 1 course=1;storm 99 99;");
        CheckKit.due("the least soup", x.plan(3, -1), 1);
        CheckKit.due("feed", x.plan(3, 0), 1);
        CheckKit.due("and let the wind", x.plan(3, 1), 0);
        x = CheckKit.told("sea 4 1;bahia 3 0;wind 1;mouth a 1 from 1 course=1;");
        CheckKit.due("for nothing", x.plan(3, -1), 0);
        CheckKit.due("nobody", x.plan(3, 0), 0);
        // Feeding both or none goes right at once; none is first.
        x = CheckKit.told("sea 2 1;bahia 1 0;wind 1;mouth z 0 0;mouth a 1 course=1;");
        CheckKit.due("none is the least", x.plan(1, 0), 0);
        x = CheckKit.told("sea 2 1;bahia 1 0;wind 3;mouth a 1 course=1;mouth b 1 course=1;mouth z 0 0;");
        CheckKit.due("the first bits", x.plan(1, 0), 1);
        x = CheckKit.told("land 0 0;ship 1 0;wind 3;mouth a 1 0-course;");
        CheckKit.due("bahia on land", x.plan(3, -1), -2);
        x = CheckKit.told("sea 3 1;land 0 0;bahia 1 0;mouth a 1 1;");
        CheckKit.due("from land", x.plan(1, -1), 1);
        // In a row: with one lost he leaps, and then nobody eats on.
        x = CheckKit.told("sea 4 1;ship 1 0;bahia 3 0;wind 1;mouth a 2 course=3;mouth b 9 from 1 course=1;");
        CheckKit.due("fast", x.plan(2, -1), 0);
    }

    private static void power() {
        PlateVote x = CheckKit.told("mouth a 4 1;mouth b 2 1;mouth c 1 1;mouth d 1 sick 0 0 1;may m 9 odds 1 1;");
        int[][] want = {{1, 1}, {0, 1}, {0, 1}, {0, 1}};
        for (int i = 0; i < 4; i++) {
            CheckKit.due("above " + i, x.power(i, 0), want[i][0]);
            CheckKit.due("below " + i, x.power(i, 1), want[i][1]);
        }
        x.fed(0);
        CheckKit.due("not by feeding", x.power(0, 0), 1);
        CheckKit.due("m is not aboard", x.power(4, 0), -1);
        x.meals(1);
        // 4 2 1 1 of 8: a decides when 1 to 4 came: 18 of 24; the others 2 of 24.
        CheckKit.due("a above", x.power(0, 0), 3);
        CheckKit.due("a below", x.power(0, 1), 4);
        CheckKit.due("b above", x.power(1, 0), 1);
        CheckKit.due("b below", x.power(1, 1), 12);
        CheckKit.due("d above", x.power(3, 0), 1);
        CheckKit.due("d below", x.power(3, 1), 12);
        CheckKit.due("what 2", x.power(0, 2), -1);
        CheckKit.due("what -1", x.power(0, -1), -1);
        CheckKit.due("mouth 5", x.power(5, 0), -1);
        CheckKit.due("mouth -1", x.power(-1, 0), -1);
        x.truth(1);
        CheckKit.due("m has all", x.power(4, 1), 1);
        x.meals(59);
        CheckKit.due("no meal", x.power(0, 0), -1);
        x = CheckKit.told("mouth a 0 1;mouth b 0 1;");
        CheckKit.due("no plates", x.power(0, 0), 0);
        CheckKit.due("no plates", x.power(0, 1), 1);
        x = CheckKit.told("mouth a 1 1;mouth b 1 1;mouth c 1 1;mouth d 1 1;mouth e 1 1;may f 1 odds 1 1;may g 1 odds 1 1;"
                + "may h 1 odds 1 1;may i 1 odds 1 1;");
        x.truth(15);
        CheckKit.due("nine alike", x.power(8, 0), 1);
        CheckKit.due("nine alike", x.power(8, 1), 9);
    }

    private static void tried() {
        PlateVote x = CheckKit.told("sea 5 5;ship 2 2;soup 9;wind 0;mouth a 3 sick 0 0 course=1;mouth b 2 loses 1 course=2;mouth c 1 course=3;");
        CheckKit.due("nobody sick: a's", x.tried(0, 0, 1), 13);
        CheckKit.due("no isles: b's", x.tried(1, 0, 1), 17);
        CheckKit.due("without b: c's", x.tried(3, 1, 1), 11);
        CheckKit.due("no meals", x.tried(3, 1, 0), 12);
        CheckKit.due("sixty", x.tried(4, 0, 60) >= 0, true);
        CheckKit.due("61", x.tried(4, 0, 61), -1);
        CheckKit.due("below", x.tried(4, 0, -1), -1);
        CheckKit.due("what 6", x.tried(6, 0, 1), -1);
        CheckKit.due("what -1", x.tried(-1, 0, 1), -1);
        CheckKit.due("i 1", x.tried(0, 1, 1), -1);
        CheckKit.due("i 3", x.tried(3, 3, 1), -1);
        CheckKit.due("i -1", x.tried(3, -1, 1), -1);
        CheckKit.due("nothing has happened", x.count(6), 0);
        CheckKit.due("nor to the soup", x.ship(2), 9);
        x.meals(1);
        CheckKit.due("behind meal 59", x.tried(4, 0, 60), -1);
        x = CheckKit.told("sea 5 5;ship 2 2;isle a 4 2 9 5;gale 0 3 9;storm 99 50;seed 1;mouth b 1 course=2;");
        CheckKit.due("no isles: the storm's", x.tried(1, 0, 1), 17);
        CheckKit.due("no gales, no storm: the isle's", x.tried(2, 0, 1), 13);
        x = CheckKit.told("sea 5 5;ship 2 2;soup 2;wind 0;mouth a 2 course=3;mouth b 3 course=1;");
        CheckKit.due("soup is never less within a meal", x.tried(4, 0, 1), 13);
        CheckKit.due("nor behind it", x.tried(4, 0, 2), 14);
        CheckKit.due("else: a's", x.tried(1, 0, 1), 11);
        CheckKit.due("else: then the wind's", x.tried(1, 0, 2), 6);
        x = CheckKit.told("sea 5 5;ship 2 2;wind 0;gale 0 1 9;mouth a 2 loses 1 course=3;");
        CheckKit.due("he leaps", x.tried(1, 0, 2), 8);
        CheckKit.due("nobody leaps", x.tried(5, 0, 2), 12);
        x.meals(1);
        CheckKit.due("who has leapt stays off", x.tried(5, 0, 1), 8);
        x = CheckKit.told("sea 5 5;ship 2 2;wind 0;mouth a 2 course=3;");
        x.fed(0);
        CheckKit.due("as fed now", x.tried(1, 0, 1), 7);
    }

    private static void undo() {
        PlateVote x = CheckKit.told("sea 5 5;ship 2 2;wind 1;mouth a 2 loses 2 course=3;mouth b 3 course=2;may m 1 odds 1 1;");
        CheckKit.due("none", x.undo(), -1);
        x.meals(1);
        x.fed(1);
        x.truth(1);
        x.meals(1);
        x.fed(0);
        x.truth(0);
        CheckKit.due("one is left", x.undo(), 1);
        CheckKit.due("fed as it was", x.look(1, 4), 0);
        CheckKit.due("and a", x.look(0, 4), 1);
        CheckKit.due("may as it was", x.look(2, 0), 1);
        CheckKit.due("lost as it was", x.look(0, 2), 1);
        CheckKit.due("soup", x.ship(2), 95);
        CheckKit.due("no log", x.log(1, 0), -1);
        CheckKit.due("none is left", x.undo(), 0);
        CheckKit.due("all fed", x.look(1, 4), 1);
        CheckKit.due("no may", x.look(2, 0), 0);
        CheckKit.due("no more", x.undo(), -1);
        x.meals(2);
        CheckKit.due("a leapt", x.look(0, 3), 1);
        x.undo();
        CheckKit.due("and is back", x.look(0, 3), 0);
        x.meals(59);
        CheckKit.due("twenty", x.count(9), 20);
        for (int left = 19; left >= 0; left--) {
            CheckKit.due("left", x.undo(), left);
        }
        CheckKit.due("the rest not", x.undo(), -1);
        CheckKit.due("meal 40 is next", x.count(6), 40);
        x.meals(1);
        CheckKit.due("one again", x.count(9), 1);
    }

    private static void image() {
        PlateVote x = CheckKit.told("sea 5 5;ship 2 2;wind 1;seed 5;storm 60 2;mouth a 2 loses 2 course=3;may m 3 odds 1 course=0;");
        CheckKit.due("none", x.back(), -1);
        x.truth(1);
        x.meals(3);
        x.fed(0);
        CheckKit.due("kept", x.keep(), 3);
        int[] before = {x.ship(0), x.ship(2), x.look(0, 2), x.look(0, 3), x.look(0, 4), x.look(1, 0), x.log(2, 3)};
        x.meals(5);
        int cell = x.ship(0);
        for (int k = 0; k < 7; k++) {
            x.undo();
        }
        x.truth(0);
        x.fed(1);
        x.meals(2);
        x.taken(0, 1);
        CheckKit.due("back", x.back(), 3);
        int[] after = {x.ship(0), x.ship(2), x.look(0, 2), x.look(0, 3), x.look(0, 4), x.look(1, 0), x.log(2, 3)};
        for (int k = 0; k < before.length; k++) {
            CheckKit.due("as kept " + k, after[k], before[k]);
        }
        CheckKit.due("nothing to undo", x.undo(), -1);
        CheckKit.due("notes stay", x.count(7), 1);
        x.meals(5);
        CheckKit.due("the same numbers again", x.ship(0), cell);
        CheckKit.due("the image stays", x.back(), 3);
        x.meals(1);
        CheckKit.due("another in its place", x.keep(), 4);
        CheckKit.due("that one", x.back(), 4);
        PlateVote y = CheckKit.told("sea 5 5;ship 2 2;wind 1;mouth a 2 course=3;");
        y.meals(2);
        y.keep();
        y.undo();
        y.undo();
        y.fed(0);
        y.meals(3);
        CheckKit.due("another log", y.log(0, 0), 1);
        y.back();
        CheckKit.due("the log as kept", y.log(0, 0), 3);
        CheckKit.due("the log as kept", y.log(1, 1), 2);
        CheckKit.due("no more of it", y.log(2, 0), -1);
        CheckKit.due("keeping leaves what can be undone", x.meals(2) + x.keep() + x.count(9), 14);
    }

    private static void count() {
        PlateVote x = CheckKit.told("sea 5 6;mouth a 2 1+2;mouth b 1 from 1 3;may m 1 odds 1 not 1;isle i 1 1 1 1;");
        x.meals(2);
        x.taken(0, 0);
        x.washed(0, 0);
        x.known(1);
        x.truth(1);
        int[] want = {5, 6, 2, 1, 1, 6, 2, 2, 1, 2, 3};
        for (int what = 0; what < want.length; what++) {
            CheckKit.due("count " + what, x.count(what), want[what]);
        }
        CheckKit.due("count 11", x.count(11), -1);
        CheckKit.due("count -1", x.count(-1), -1);
    }
}
