import java.util.NoSuchElementException;
import java.util.Random;

/** Many runs of calls by chance (always the same), each asked of the program and of the plain model. */
public final class RandomRunsTest {
    private static final int THREW_INDEX = -1000001;
    private static final int THREW_ELEMENT = -1000002;
    private static final String[] NAMES = {"course", "far", "windy", "meal", "plates", "lost", "stock"};
    private static final String[] SIGNS = {"+", "-", "*", "/", "<", "<=", "=", "<>", ">=", ">", " and ", " or "};

    private final Random random;
    private final PlateVote x = new PlateVote();
    private final ModelKit m = new ModelKit();
    private final StringBuilder story = new StringBuilder();

    private RandomRunsTest(long seed) {
        random = new Random(seed);
    }

    public static void main(String[] args) {
        int runs = args.length > 0 ? Integer.parseInt(args[0]) : 1500;
        int first = args.length > 1 ? Integer.parseInt(args[1]) : 0;
        for (int seed = first; seed < first + runs; seed++) {
            new RandomRunsTest(seed).run(seed);
        }
        CheckKit.end();
    }

    private int to(int bound) {
        return random.nextInt(bound);
    }

    /** Mostly 0 .. most, at times just outside or wild. */
    private int near(int most) {
        int chance = to(40);
        if (chance == 0) {
            return -1 - to(3);
        }
        if (chance == 1) {
            return most + 1 + to(3);
        }
        if (chance == 2) {
            int[] wild = {Integer.MIN_VALUE, Integer.MAX_VALUE, random.nextInt(), 64, 99};
            return wild[to(wild.length)];
        }
        return to(most + 1);
    }

    private void run(int seed) {
        int calls = 0;
        if (to(20) > 0) {
            calls += tell();
        }
        while (calls < 500) {
            String before = story.toString();
            long[] answers = call();
            calls++;
            if (answers[0] != answers[1]) {
                CheckKit.due("seed " + seed + before + story.substring(before.length()), answers[0], answers[1]);
                return;
            }
            // A text of 790 bytes takes forty calls more.
            if (to(80) == 0 && calls < 460) {
                calls += tell();
            }
            if (to(300) == 0) {
                break;
            }
        }
        CheckKit.due("run", 0, 0);
    }

    private static boolean isText(String text) {
        try {
            new ModelKit.Parser(text).read();
            return text.length() <= 790;
        } catch (ModelKit.Fault e) {
            return false;
        }
    }

    private int tell() {
        String text = text();
        boolean spoils = to(4) == 0;
        for (int k = 0; k < 100 && !spoils && !isText(text); k++) {
            text = text();
        }
        text = spoils ? spoil(text) : text;
        if (text.length() > 790) {
            text = text.substring(0, 790);
        }
        // What a call before may have left on the tape goes first.
        x.text(0);
        m.text(0);
        int feeds = 0;
        String full = text + " ".repeat(20);
        for (int i = 0; i < text.length(); i += 20) {
            int[] n = new int[5];
            for (int k = 0; k < 20; k++) {
                n[k / 4] = n[k / 4] << 8 | full.charAt(i + k);
            }
            CheckKit.due("feed", x.feed(n[0], n[1], n[2], n[3], n[4]), m.feed(n[0], n[1], n[2], n[3], n[4]));
            feeds++;
        }
        CheckKit.due("text '" + text + "'", x.text(text.length()), m.text(text.length()));
        CheckKit.due("fault of '" + text + "'", x.fault(0), m.fault(0));
        CheckKit.due("place in '" + text + "'", x.fault(1), m.fault(1));
        story.append("\n text ").append(text).append("\n");
        return feeds + 4;
    }

    private String spoil(String text) {
        StringBuilder t = new StringBuilder(text);
        String odd = " 0123456789;()<>=+-*/abcsea?\n\t";
        String[] words = {"sea 4 4;", "soup 5;", "land 1 1;", "from 3", "till 2", "sick 3 2", "ship 0 0;", "isle a 0 0 1 1;",
            "not", "or", "and", "(", ")", "1", "mouth a 1 1;", "odds 5", "10000", "99", "loses 4", "abcdefg", "bahia 1 1;"};
        for (int k = to(3); k >= 0 && t.length() > 0; k--) {
            int at = to(t.length());
            switch (to(5)) {
                case 0 -> t.deleteCharAt(at);
                case 1 -> t.setCharAt(at, odd.charAt(to(odd.length())));
                case 2 -> t.insert(at, odd.charAt(to(odd.length())));
                case 3 -> t.insert(at, " " + words[to(words.length)] + " ");
                default -> t.setLength(at);
            }
        }
        return t.toString();
    }

    private String text() {
        StringBuilder t = new StringBuilder();
        int wide = 4;
        int high = 4;
        if (to(4) > 0) {
            wide = 1 + to(to(2) == 0 ? 3 : 8);
            high = 1 + to(to(2) == 0 ? 3 : 8);
            t.append("sea ").append(wide).append(' ').append(high).append(';');
        }
        if (to(4) > 0) {
            t.append("ship ").append(to(wide)).append(' ').append(to(high)).append(';');
        }
        if (to(4) > 0) {
            t.append("bahia ").append(to(wide)).append(' ').append(to(high)).append(';');
        }
        for (int k = to(3); k > 0; k--) {
            t.append("isle ").append((char) ('a' + to(9))).append(' ').append(to(wide)).append(' ').append(to(high))
                    .append(' ').append(to(10)).append(' ').append(1 + to(9)).append(';');
        }
        for (int k = to(2) == 0 ? 0 : to(8); k > 0; k--) {
            t.append("land ").append(to(wide)).append(' ').append(to(high)).append(';');
        }
        if (to(2) == 0) {
            t.append("wind");
            for (int k = to(8); k >= 0; k--) {
                t.append(' ').append(to(4));
            }
            t.append(';');
        }
        for (int k = to(4); k > 0; k--) {
            t.append("gale ").append(to(to(2) == 0 ? 6 : 60)).append(' ').append(to(4)).append(' ').append(1 + to(12))
                    .append(';');
        }
        if (to(2) == 0) {
            t.append("storm ").append(to(100)).append(' ').append(1 + to(12)).append(";\n");
        }
        if (to(2) == 0) {
            t.append("soup ").append(to(to(2) == 0 ? 30 : 400)).append(';');
        }
        if (to(2) == 0) {
            t.append("seed ").append(to(100000)).append(';');
        }
        int mays = to(5);
        int mouths = to(4) + to(3);
        while (mays + mouths > 0) {
            boolean may = to(mays + mouths) < mays;
            t.append(may ? "may " : "mouth ").append((char) ('a' + mays)).append((char) ('a' + mouths)).append(' ')
                    .append(to(to(3) == 0 ? 10 : 4));
            if (may) {
                t.append(" odds ").append(1 + to(99));
                mays--;
            } else {
                mouths--;
            }
            rest(t);
            t.append(' ');
            law(t, to(3));
            t.append(';');
        }
        return t.toString();
    }

    private void rest(StringBuilder t) {
        if (to(5) == 0) {
            t.append(" from ").append(to(5));
        }
        if (to(5) == 0) {
            t.append(" till ").append(5 + to(20));
        }
        if (to(4) == 0) {
            int sick = to(8);
            t.append(" sick ").append(sick).append(' ').append(sick + to(4));
        }
        if (to(3) == 0) {
            t.append(" loses ").append(1 + to(5));
        }
    }

    private void law(StringBuilder t, int depth) {
        if (to(8) == 0) {
            t.append("0-far");
            return;
        }
        if (to(6) == 0) {
            t.append("course=").append(to(4));
            return;
        }
        if (to(8) == 0 && depth > 0) {
            t.append("(not ");
            law(t, depth - 1);
            t.append(')');
            return;
        }
        if (depth == 0) {
            t.append(to(3) > 0 ? NAMES[to(7)] : String.valueOf(to(to(3) == 0 ? 10000 : 10)));
            return;
        }
        boolean bracket = to(3) > 0;
        t.append(bracket ? "(" : "");
        law(t, depth - 1);
        t.append(SIGNS[to(SIGNS.length)]);
        law(t, depth - 1);
        t.append(bracket ? ")" : "");
    }

    private long[] call() {
        int which = to(100);
        return which < 50 ? callWay(which) : callWord(which);
    }

    private long[] two(String call, long got, long want) {
        story.append(' ').append(call).append(':').append(want);
        return new long[] {got, want};
    }

    private long[] callWay(int which) {
        int men = m.w.all().size();
        int cells = m.w.wide * m.w.high;
        if (which < 5) {
            int i = near(Math.max(0, men - 1));
            int what = near(4);
            return two("look(" + i + "," + what + ")", looked(true, i, what), looked(false, i, what));
        }
        if (which < 9) {
            int what = near(3);
            return two("ship(" + what + ")", x.ship(what), m.ship(what));
        }
        if (which < 11) {
            int one = near(cells - 1);
            int other = near(cells - 1);
            return two("far(" + one + "," + other + ")", x.far(one, other), m.far(one, other));
        }
        if (which < 12) {
            int cell = near(cells - 1);
            return two("land(" + cell + ")", x.land(cell), m.land(cell));
        }
        if (which < 16) {
            int i = near(Math.max(0, men - 1));
            return two("wish(" + i + ")", x.wish(i), m.wish(i));
        }
        if (which < 20) {
            int i = near(Math.max(0, men - 1));
            int c = near(3);
            int p = near(9);
            return two("law(" + i + "," + c + "," + p + ")", x.law(i, c, p), m.law(i, c, p));
        }
        if (which < 24) {
            int c = near(3);
            return two("votes(" + c + ")", x.votes(c), m.votes(c));
        }
        if (which < 28) {
            int bits = near((1 << m.w.mouths.size()) - 1);
            return two("fed(" + bits + ")", x.fed(bits) ? 1 : 0, m.fed(bits) ? 1 : 0);
        }
        if (which < 32) {
            int bits = near((1 << m.w.mays.size()) - 1);
            return two("truth(" + bits + ")", x.truth(bits) ? 1 : 0, m.truth(bits) ? 1 : 0);
        }
        if (which < 41) {
            int n = to(20) == 0 ? near(60) : near(3);
            return two("meals(" + n + ")", x.meals(n), m.meals(n));
        }
        if (which < 46) {
            int t = near(Math.max(0, m.s.meal - 1));
            int what = near(3);
            return two("log(" + t + "," + what + ")", x.log(t, what), m.log(t, what));
        }
        int n = near(3);
        // The model searches all plans: three meals only for few mouths.
        n = n == 3 && m.w.mouths.size() > 3 && to(30) > 0 ? 2 : n;
        int what = near(3) - 1;
        return two("plan(" + n + "," + what + ")", x.plan(n, what), m.plan(n, what));
    }

    private long looked(boolean program, int i, int what) {
        try {
            return program ? x.look(i, what) : m.look(i, what);
        } catch (IndexOutOfBoundsException e) {
            return THREW_INDEX;
        } catch (NoSuchElementException e) {
            return THREW_ELEMENT;
        }
    }

    private long[] callWord(int which) {
        int men = m.w.all().size();
        int mays = m.w.mays.size();
        int gone = Math.max(0, m.s.meal - 1);
        if (which < 55) {
            int i = near(Math.max(0, men - 1));
            int what = near(1);
            return men > 7 && to(20) > 0 ? callWord(99) : two("power(" + i + "," + what + ")", x.power(i, what), m.power(i, what));
        }
        if (which < 59) {
            int t = near(gone);
            int c = to(3) > 0 ? m.log(t, 0) : near(3);
            return two("taken(" + t + "," + c + ")", x.taken(t, c), m.taken(t, c));
        }
        if (which < 62) {
            int t = near(gone);
            int p = to(3) > 0 ? m.log(t, 1) : near(99);
            return two("washed(" + t + "," + p + ")", x.washed(t, p), m.washed(t, p));
        }
        if (which < 65) {
            int n = near(Math.max(0, m.notes.size() - 1));
            return two("strike(" + n + ")", x.strike(n), m.strike(n));
        }
        if (which < 67) {
            int n = to(3) == 0 ? -1 : near(m.notes.size());
            return two("known(" + n + ")", x.known(n) ? 1 : 0, m.known(n) ? 1 : 0);
        }
        if (which < 71) {
            return two("fits()", x.fits(), m.fits());
        }
        if (which < 74) {
            int i = near(Math.max(0, mays - 1));
            return two("sure(" + i + ")", x.sure(i), m.sure(i));
        }
        if (which < 78) {
            int i = near(Math.max(0, mays - 1));
            int what = near(1);
            return two("odds(" + i + "," + what + ")", x.odds(i, what), m.odds(i, what));
        }
        if (which < 81) {
            return two("fraud()", x.fraud(), m.fraud());
        }
        if (which < 86) {
            int what = near(5);
            int i = what == 3 ? near(Math.max(0, men - 1)) : to(20) == 0 ? 1 : 0;
            int n = to(5) == 0 ? near(60) : near(8);
            return two("tried(" + what + "," + i + "," + n + ")", x.tried(what, i, n), m.tried(what, i, n));
        }
        if (which < 90) {
            return two("undo()", x.undo(), m.undo());
        }
        if (which < 92) {
            return two("keep()", x.keep(), m.keep());
        }
        if (which < 94) {
            return two("back()", x.back(), m.back());
        }
        if (which < 95) {
            int what = near(1);
            int letters = CheckKit.letters("" + (char) ('a' + to(5)) + (to(2) == 0 ? "" : (char) ('a' + to(5))));
            return two("named(" + what + "," + letters + ")", x.named(what, letters), m.named(what, letters));
        }
        int what = near(10);
        return two("count(" + what + ")", x.count(what), m.count(what));
    }
}
