/** Promises 1 to 5: a new object, the tape, the text, its faults, its names. */
public final class TextTest {
    public static void main(String[] args) {
        newObject();
        tape();
        stays();
        tokens();
        lines();
        seaAndCells();
        weather();
        crew();
        rest();
        expressions();
        limits();
        names();
        CheckKit.end();
    }

    private static void newObject() {
        PlateVote x = new PlateVote();
        int[] counts = {4, 4, 0, 0, 0, 0, 0, 0, 0, 0, 0};
        for (int what = 0; what < counts.length; what++) {
            CheckKit.due("new count " + what, x.count(what), counts[what]);
        }
        CheckKit.due("new fault", x.fault(0), 0);
        CheckKit.due("new place", x.fault(1), -1);
        CheckKit.due("new cell", x.ship(0), 0);
        CheckKit.due("new bahia", x.ship(1), 0);
        CheckKit.due("new soup", x.ship(2), 100);
        CheckKit.due("new text", x.text(1), -2);
        CheckKit.due("new far", x.far(0, 15), 6);
        CheckKit.due("new votes", x.votes(0), 0);
        CheckKit.due("new fed", x.fed(0), true);
        CheckKit.due("new truth", x.truth(0), true);
        CheckKit.due("new meals", x.meals(60), 60);
        CheckKit.due("new fraud", x.fraud(), -1);
    }

    private static void tape() {
        PlateVote x = new PlateVote();
        for (int k = 1; k <= 40; k++) {
            CheckKit.due("feed " + k, x.feed(0, 0, 0, 0, 0), 20 * k);
        }
        CheckKit.due("feed 41", x.feed(0, 0, 0, 0, 0), -1);
        CheckKit.due("text 801", x.text(801), -2);
        CheckKit.due("text below 0", x.text(-1), -2);
        CheckKit.due("fault of -2", x.fault(0), 0);
        CheckKit.due("text 800", x.text(800), -1);
        CheckKit.due("fault", x.fault(0), 1);
        CheckKit.due("place", x.fault(1), 0);
        CheckKit.due("the tape is empty", x.feed(0x736f7570, 0x20353b20, 0x20202020, -1, -1), 20);
        CheckKit.due("text of the first bytes", x.text(7), 1);
        CheckKit.due("soup", x.ship(2), 5);
        CheckKit.due("place without", x.fault(1), -1);
        CheckKit.due("fault 2", x.fault(2), -1);
        CheckKit.due("fault -1", x.fault(-1), -1);
        x.feed(0x736f7570, 0x20353b20, 0x20202020, -1, -1);
        CheckKit.due("text with bytes that are none", x.text(13), -1);
        CheckKit.due("place of these", x.fault(1), 12);
        CheckKit.due("fault stays with -2", x.text(1), -2);
        CheckKit.due("fault stays", x.fault(1), 12);
    }

    /** With a FAULT all stays, without one all is new. */
    private static void stays() {
        PlateVote x = CheckKit.told("sea 5 5;ship 1 1;mouth a 2 1;mouth b 1 1;may c 1 odds 5 1;wind 1;");
        x.fed(1);
        x.truth(1);
        x.meals(2);
        x.keep();
        x.taken(0, 1);
        x.known(1);
        CheckKit.due("fault", CheckKit.tell(x, "sea 2 2;mouth z 1 9;soup"), -1);
        int[] counts = {5, 5, 2, 1, 0, 3, 2, 1, 1, 2, 3};
        for (int what = 0; what < counts.length; what++) {
            CheckKit.due("stays count " + what, x.count(what), counts[what]);
        }
        CheckKit.due("stays named", x.named(1, CheckKit.letters("z")), -1);
        CheckKit.due("stays image", x.back(), 2);
        CheckKit.due("another text", CheckKit.tell(x, "mouth z 1 9;may y 1 odds 1 1;"), 2);
        int[] anew = {4, 4, 1, 1, 0, 2, 0, 0, 0, 0, 1};
        for (int what = 0; what < anew.length; what++) {
            CheckKit.due("anew count " + what, x.count(what), anew[what]);
        }
        CheckKit.due("anew back", x.back(), -1);
        CheckKit.due("anew undo", x.undo(), -1);
        CheckKit.due("anew fed", x.look(0, 4), 1);
        CheckKit.due("anew may", x.look(1, 0), 0);
        CheckKit.due("anew soup", x.ship(2), 100);
        x.meals(1);
        x.taken(0, 0);
        CheckKit.due("anew all known", x.count(8), 1);
    }

    private static void tokens() {
        CheckKit.fault("", 0, -1);
        CheckKit.fault("  \n ", 0, -1);
        CheckKit.fault("sea\n4\n\n4 ;\n", 0, -1);
        CheckKit.fault("sea4 4;", 0, -1);
        CheckKit.fault("sea 04 0000000000000000000004;", 0, -1);
        CheckKit.fault("sea\t4 4;", 1, 3);
        CheckKit.fault("Sea 4 4;", 1, 0);
        CheckKit.fault("sea 4 4.", 1, 7);
        CheckKit.fault("sea 4 4", 1, 7);
        CheckKit.fault("sea 4 4  ", 1, 9);
        CheckKit.fault("sea 4", 1, 5);
        CheckKit.fault("sea", 1, 3);
        CheckKit.fault("sea 4 4;;", 1, 8);
        CheckKit.fault("seas 4 4;", 1, 0);
        CheckKit.fault("seaseas 4 4;", 1, 0);
        CheckKit.fault("4;", 1, 0);
        CheckKit.fault("sea 4 4 4;", 1, 8);
        CheckKit.fault("sea 4 x;", 1, 6);
        CheckKit.fault("sea 4x;", 1, 5);
        CheckKit.fault("soup 99999999999999999999999;", 2, 5);
        CheckKit.fault("mouth a 1 1 ?", 1, 12);
        CheckKit.fault("odds 1;", 1, 0);
        CheckKit.fault("course 1;", 1, 0);
    }

    private static void lines() {
        CheckKit.fault("soup 1;soup 1;", 3, 7);
        CheckKit.fault("seed 1;seed 1;", 3, 7);
        CheckKit.fault("wind 1;wind 1;", 3, 7);
        CheckKit.fault("storm 1 1;storm 1 1;", 3, 10);
        CheckKit.fault("ship 1 1;ship 1 1;", 3, 9);
        CheckKit.fault("bahia 1 1;bahia 1 1;", 3, 10);
        CheckKit.fault("soup 10000;", 2, 5);
        CheckKit.fault("soup 9999;", 0, -1);
        CheckKit.fault("soup 0;", 0, -1);
        CheckKit.fault("seed 99999;", 0, -1);
        CheckKit.fault("seed 100000;", 2, 5);
        CheckKit.fault("soup;", 1, 4);
        CheckKit.fault("soup 1;soup", 3, 7);
    }

    private static void seaAndCells() {
        CheckKit.fault("sea 0 4;", 2, 4);
        CheckKit.fault("sea 1 0;", 2, 6);
        CheckKit.fault("sea 1 9;", 2, 6);
        CheckKit.fault("sea 8 1;ship 7 0;land 0 0;", 0, -1);
        CheckKit.fault("sea 8 1;ship 7 1;", 2, 15);
        CheckKit.fault("sea 1 8;ship 1 7;", 2, 13);
        CheckKit.fault("ship 3 3;", 0, -1);
        CheckKit.fault("ship 4 3;", 2, 5);
        CheckKit.fault("ship 1 1;sea 4 4;", 4, 9);
        CheckKit.fault("bahia 1 1;sea 4 4;", 4, 10);
        CheckKit.fault("isle a 1 1 1 1;sea 4 4;", 4, 15);
        CheckKit.fault("soup 1;wind 1;mouth a 1 1;sea 8 8;", 0, -1);
        CheckKit.fault("sea 4 4;land 1 1;sea 4 4;", 3, 17);
        CheckKit.fault("land 1 1;sea 4 4;sea 4 4;", 4, 9);
        CheckKit.fault("land 1 1;isle a 1 1 0 1;", 5, 18);
        CheckKit.fault("land 1 1;ship 1 1;", 5, 16);
        CheckKit.fault("isle a 1 1 0 1;land 1 1;", 5, 22);
        CheckKit.fault("bahia 1 1;land 1 1;", 5, 17);
        CheckKit.fault("ship 1 1;bahia 1 1;isle a 1 1 0 1;isle b 1 1 9 9;", 0, -1);
        CheckKit.fault("isle a 1 1 10 1;", 2, 11);
        CheckKit.fault("isle a 1 1 1 0;", 2, 13);
        CheckKit.fault("isle a 1 1 1 10;", 2, 13);
        CheckKit.fault("isle a 1 1 1;", 1, 12);
        CheckKit.fault("isle 1 1 1 1 1;", 1, 5);
        CheckKit.fault("isle odds 1 1 1 1;", 1, 5);
        CheckKit.fault("isle abcdefg 1 1 1 1;", 1, 5);
        CheckKit.fault("isle a 1 1 1 1;isle a 2 1 1 1;", 3, 20);
        CheckKit.fault("isle a 1 1 1 1;isle b 2 1 1 1;isle c 1 2 1 1;isle d 1 1 1 1;", 2, 45);
        CheckKit.fault("land 1 1;land 1 4;", 2, 16);
    }

    private static void weather() {
        CheckKit.fault("wind 0 1 2 3 3 2 1 0;", 0, -1);
        CheckKit.fault("wind 0 1 2 3 3 2 1 0 7;", 2, 21);
        CheckKit.fault("wind 0 4;", 2, 7);
        CheckKit.fault("wind x;", 1, 5);
        CheckKit.fault("gale 59 3 99;", 0, -1);
        CheckKit.fault("gale 60 1 1;", 2, 5);
        CheckKit.fault("gale 59 4 99;", 2, 8);
        CheckKit.fault("gale 59 3 100;", 2, 10);
        CheckKit.fault("gale 59 3 0;", 2, 10);
        CheckKit.fault("gale 1 1 1;gale 1 1 1;gale 1 1 1;gale 1 1 1;", 0, -1);
        CheckKit.fault("gale 1 1 1;gale 1 1 1;gale 1 1 1;gale 1 1 1;gale 1 1 1;", 2, 44);
        CheckKit.fault("storm 99 99;", 0, -1);
        CheckKit.fault("storm 0 1;", 0, -1);
        CheckKit.fault("storm 100 1;", 2, 6);
        CheckKit.fault("storm 1 0;", 2, 8);
    }

    private static void crew() {
        CheckKit.fault("mouth abcdef 9 1;", 0, -1);
        CheckKit.fault("mouth abcdefg 9 1;", 1, 6);
        CheckKit.fault("mouth sea 9 1;", 1, 6);
        CheckKit.fault("mouth 1 9 1;", 1, 6);
        CheckKit.fault("mouth a 10 1;", 2, 8);
        CheckKit.fault("mouth a 1 1;mouth a 1 1;", 3, 18);
        CheckKit.fault("mouth a 1 1;may a 1 odds 1 1;", 3, 16);
        CheckKit.fault("may a 1 odds 1 1;may a 1 odds 1 1;", 3, 21);
        CheckKit.fault("mouth a x;", 1, 8);
        CheckKit.fault("mouth a 1", 1, 9);
        CheckKit.fault("may a 1 odds 99 1;", 0, -1);
        CheckKit.fault("may a 1 odds 0 1;", 2, 13);
        CheckKit.fault("may a 1 odds 100 1;", 2, 13);
        CheckKit.fault("may a 1 from 1 odds 1 1;", 1, 8);
        CheckKit.fault("mouth a 1 odds 1 1;", 1, 10);
        CheckKit.fault("may a 1 odds 1 1;mouth a 1 1;", 3, 23);
        CheckKit.fault("isle a 1 1 1 1;mouth a 1 1;", 0, -1);
        CheckKit.fault("mouth a 1 1;mouth b 1 1;mouth c 1 1;mouth d 1 1;mouth e 1 1;", 0, -1);
        CheckKit.fault("mouth a 1 1;mouth b 1 1;mouth c 1 1;mouth d 1 1;mouth e 1 1;mouth a 1 1;", 2, 60);
        CheckKit.fault("may a 1 odds 1 1;may b 1 odds 1 1;may c 1 odds 1 1;may d 1 odds 1 1;may e 1 odds 1 1;", 2, 68);
    }

    private static void rest() {
        CheckKit.fault("mouth a 1 loses 3 sick 4 4 till 9 from 9 1;", 0, -1);
        CheckKit.fault("mouth a 1 from 9 till 8 1;", 2, 22);
        CheckKit.fault("mouth a 1 till 8 from 9 1;", 2, 22);
        CheckKit.fault("mouth a 1 from 60 1;", 2, 15);
        CheckKit.fault("mouth a 1 till 60 1;", 2, 15);
        CheckKit.fault("mouth a 1 from 59 till 59 1;", 0, -1);
        CheckKit.fault("mouth a 1 sick 59 59 1;", 0, -1);
        CheckKit.fault("mouth a 1 sick 60 60 1;", 2, 15);
        CheckKit.fault("mouth a 1 sick 5 60 1;", 2, 17);
        CheckKit.fault("mouth a 1 sick 5;", 1, 16);
        CheckKit.fault("mouth a 1 loses 0 1;", 2, 16);
        CheckKit.fault("mouth a 1 loses 99 1;", 0, -1);
        CheckKit.fault("mouth a 1 loses 100 1;", 2, 16);
        CheckKit.fault("mouth a 1 till 9 loses 1 till 9 1;", 3, 25);
        CheckKit.fault("mouth a 1 sick 1 1 sick 2 2 1;", 3, 19);
        CheckKit.fault("mouth a 1 loses 1 from 1 till 2 sick 1 1 loses 1 1;", 3, 41);
        CheckKit.fault("mouth a 1 1 from 1;", 1, 12);
    }

    private static void expressions() {
        CheckKit.fault("mouth a 1 9999;", 0, -1);
        CheckKit.fault("mouth a 1 10000;", 2, 10);
        CheckKit.fault("mouth a 1 1<2<3;", 1, 13);
        CheckKit.fault("mouth a 1 (1<2)<3;", 0, -1);
        CheckKit.fault("mouth a 1 1<2 and 2<3 or 3<4;", 0, -1);
        CheckKit.fault("mouth a 1 1< =2;", 1, 13);
        CheckKit.fault("mouth a 1 1=<2;", 1, 12);
        CheckKit.fault("mouth a 1 1><2;", 1, 12);
        CheckKit.fault("mouth a 1 1<>=2;", 1, 13);
        CheckKit.fault("mouth a 1 1<>2;", 0, -1);
        CheckKit.fault("mouth a 1 1>=2;", 0, -1);
        CheckKit.fault("mouth a 1 1<=2;", 0, -1);
        CheckKit.fault("mouth a 1 -1;", 1, 10);
        CheckKit.fault("mouth a 1 1+;", 1, 12);
        CheckKit.fault("mouth a 1 1 2;", 1, 12);
        CheckKit.fault("mouth a 1 1+not 2;", 1, 12);
        CheckKit.fault("mouth a 1 1<not 2;", 1, 12);
        CheckKit.fault("mouth a 1 not not 1<2;", 0, -1);
        CheckKit.fault("mouth a 1 1 and not 2 or not 3;", 0, -1);
        CheckKit.fault("mouth a 1 1+(not 2);", 0, -1);
        CheckKit.fault("mouth a 1 1 not 2;", 1, 12);
        CheckKit.fault("mouth a 1 1 or;", 1, 14);
        CheckKit.fault("mouth a 1 or 1;", 1, 10);
        CheckKit.fault("mouth a 1 (1;", 1, 12);
        CheckKit.fault("mouth a 1 (1", 1, 12);
        CheckKit.fault("mouth a 1 1);", 1, 11);
        CheckKit.fault("mouth a 1 ();", 1, 11);
        CheckKit.fault("mouth a 1 (1)(2);", 1, 13);
        CheckKit.fault("mouth a 1 b;", 1, 10);
        CheckKit.fault("mouth a 1 far far;", 1, 14);
        CheckKit.fault("mouth a 1 soup;", 1, 10);
    }

    private static void limits() {
        CheckKit.fault("mouth a 1 ((((((((1))))))));", 0, -1);
        CheckKit.fault("mouth a 1 (((((((((1)))))))));", 2, 18);
        CheckKit.fault("mouth a 1 ((((((((1))))))))+((((((((1))))))));", 0, -1);
        StringBuilder sum = new StringBuilder("mouth a 1 1");
        for (int k = 0; k < 31; k++) {
            sum.append("+1");
        }
        // 63 knots so far.
        CheckKit.fault(sum + ";", 0, -1);
        CheckKit.due("knots", CheckKit.told(sum + ";").count(5), 63);
        CheckKit.due("brackets are no knots", CheckKit.told("mouth a 1 ((1)+(not far));").count(5), 4);
        CheckKit.fault(sum + ";mouth b 1 1;", 0, -1);
        CheckKit.fault(sum + ";mouth b 1 1+1;", 2, sum.length() + 12);
        CheckKit.fault(sum + ";mouth b 1 not far;", 2, sum.length() + 15);
        CheckKit.fault(sum + "+1;", 2, sum.length() + 1);
        CheckKit.fault(sum + "+odds;", 1, sum.length() + 1);
        StringBuilder nots = new StringBuilder("mouth a 1 ");
        for (int k = 0; k < 63; k++) {
            nots.append("not ");
        }
        CheckKit.fault(nots + "1;", 0, -1);
        CheckKit.fault(nots + "not 1;", 2, nots.length() + 4);
        StringBuilder land = new StringBuilder();
        for (int k = 0; k < 20; k++) {
            land.append("land ").append(k % 8).append(' ').append(k / 8).append(';');
        }
        CheckKit.fault("sea 8 8;" + land, 0, -1);
        CheckKit.fault("sea 8 8;" + land + "land 7 7;", 2, 8 + land.length());
        CheckKit.fault("sea 8 8;" + land + "land x", 2, 8 + land.length());
    }

    private static void names() {
        PlateVote x = CheckKit.told("may rat 1 odds 9 1;isle goat 1 1 1 1;mouth abcdef 1 1;may zz 1 odds 1 1;"
                + "mouth b 1 1;isle b 2 2 1 1;");
        CheckKit.due("isle goat", x.named(0, CheckKit.letters("goat")), 0);
        CheckKit.due("isle b", x.named(0, CheckKit.letters("b")), 1);
        CheckKit.due("mouth goat", x.named(1, CheckKit.letters("goat")), -1);
        CheckKit.due("mouth abcdef", x.named(1, CheckKit.letters("abcdef")), 0);
        CheckKit.due("mouth b", x.named(1, CheckKit.letters("b")), 1);
        CheckKit.due("letters not behind", x.named(1, 2), -1);
        CheckKit.due("may rat", x.named(1, CheckKit.letters("rat")), 2);
        CheckKit.due("may zz", x.named(1, CheckKit.letters("zz")), 3);
        CheckKit.due("named what 2", x.named(2, CheckKit.letters("b")), -1);
        CheckKit.due("named what -1", x.named(-1, CheckKit.letters("b")), -1);
        CheckKit.due("named 0", x.named(1, 0), -1);
        CheckKit.due("named 0", x.named(0, 0), -1);
        CheckKit.due("named beyond 30 bits", x.named(1, CheckKit.letters("b") | 1 << 31), -1);
    }
}
