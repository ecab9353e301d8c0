import java.util.ArrayDeque;
import java.util.ArrayList;
import java.util.Arrays;
import java.util.Collections;
import java.util.HashMap;
import java.util.HashSet;
import java.util.List;
import java.util.Map;
import java.util.NoSuchElementException;
import java.util.Set;
import java.util.function.ToLongFunction;

/**
 * The document once more, written for plainness alone: trees for E, maps, exceptions, whole searches.
 * RandomRunsTest asks it and the program the same calls.
 */
final class ModelKit {
    static final class Fault extends Exception {
        final int kind;
        final int place;

        Fault(int kind, int place) {
            this.kind = kind;
            this.place = place;
        }
    }

    static final class Wrong extends RuntimeException {
    }

    interface Tree {
        long of(Map<String, Long> names);
    }

    static final class Man {
        String name;
        int plates;
        int odds;
        int from = 0;
        int till = 59;
        int sick = 99;
        int well = -1;
        int loses = 99;
        Tree law;
    }

    static final class Isle {
        String name;
        int cell;
        int reach;
        int goats;
    }

    static final class World {
        int wide = 4;
        int high = 4;
        Set<Integer> land = new HashSet<>();
        int ship = 0;
        int bahia = 0;
        List<Isle> isles = new ArrayList<>();
        List<Integer> wind = new ArrayList<>(List.of(0));
        List<int[]> gales = new ArrayList<>();
        int storm = 0;
        int stormPlates = 1;
        int soup = 100;
        long seed = 0;
        List<Man> mouths = new ArrayList<>();
        List<Man> mays = new ArrayList<>();
        int knots = 0;
        int lines = 0;

        List<Man> all() {
            List<Man> all = new ArrayList<>(mouths);
            all.addAll(mays);
            return all;
        }

        boolean cell(int c) {
            return c >= 0 && c < wide * high;
        }

        int to(int cell, int course) {
            int x = cell % wide + (course == 1 ? 1 : course == 3 ? -1 : 0);
            int y = cell / wide + (course == 2 ? 1 : course == 0 ? -1 : 0);
            return x < 0 || y < 0 || x >= wide || y >= high ? -1 : y * wide + x;
        }

        int far(int one, int other) {
            Map<Integer, Integer> seen = new HashMap<>();
            ArrayDeque<Integer> queue = new ArrayDeque<>();
            if (!land.contains(one)) {
                seen.put(one, 0);
                queue.add(one);
            }
            while (!queue.isEmpty()) {
                int at = queue.remove();
                for (int c = 0; c < 4; c++) {
                    int next = to(at, c);
                    if (next >= 0 && !land.contains(next) && !seen.containsKey(next)) {
                        seen.put(next, seen.get(at) + 1);
                        queue.add(next);
                    }
                }
            }
            return seen.getOrDefault(other, 99);
        }
    }

    /** Reads a text by the grammar, rule by rule. */
    static final class Parser {
        static final Set<String> LANGUAGE = new HashSet<>(Arrays.asList(("sea land ship bahia isle wind gale storm "
                + "soup seed mouth may odds from till sick loses or and not course far windy meal plates lost stock")
                .split(" ")));
        static final Set<String> NAMES = new HashSet<>(Arrays.asList("course", "far", "windy", "meal", "plates",
                "lost", "stock"));
        final String text;
        final List<String> tokens = new ArrayList<>();
        final List<Integer> places = new ArrayList<>();
        int at = 0;
        int open = 0;
        final World w = new World();
        final Set<String> told = new HashSet<>();

        Parser(String text) {
            this.text = text;
            int i = 0;
            while (i < text.length()) {
                char c = text.charAt(i);
                int from = i++;
                if (c == ' ' || c == '\n') {
                    continue;
                }
                if (c >= 'a' && c <= 'z') {
                    while (i < text.length() && text.charAt(i) >= 'a' && text.charAt(i) <= 'z') {
                        i++;
                    }
                } else if (c >= '0' && c <= '9') {
                    while (i < text.length() && text.charAt(i) >= '0' && text.charAt(i) <= '9') {
                        i++;
                    }
                } else if ((c == '<' || c == '>') && i < text.length()
                        && (text.charAt(i) == '=' || c == '<' && text.charAt(i) == '>')) {
                    i++;
                }
                tokens.add(text.substring(from, i));
                places.add(from);
            }
            tokens.add("");
            places.add(text.length());
        }

        String now() {
            return tokens.get(at);
        }

        int place() {
            return places.get(at);
        }

        Fault none() {
            return new Fault(1, place());
        }

        void word(String word) throws Fault {
            if (!now().equals(word)) {
                throw none();
            }
            at++;
        }

        boolean isNumber() {
            return now().matches("[0-9]+");
        }

        int number(int least, int most) throws Fault {
            if (!isNumber()) {
                throw none();
            }
            java.math.BigInteger n = new java.math.BigInteger(now());
            if (n.bitLength() > 30 || n.intValue() < least || n.intValue() > most) {
                throw new Fault(2, place());
            }
            at++;
            return n.intValue();
        }

        String name(Set<String> had) throws Fault {
            String s = now();
            if (!s.matches("[a-z]{1,6}") || LANGUAGE.contains(s)) {
                throw none();
            }
            if (had.contains(s)) {
                throw new Fault(3, place());
            }
            at++;
            return s;
        }

        World read() throws Fault {
            while (!now().isEmpty()) {
                line();
                word(";");
                w.lines++;
            }
            return w;
        }

        void once(String word, int place) throws Fault {
            if (!told.add(word)) {
                throw new Fault(3, place);
            }
        }

        void line() throws Fault {
            String word = now();
            int place = place();
            if (!Arrays.asList("sea", "land", "ship", "bahia", "isle", "wind", "gale", "storm", "soup", "seed", "mouth",
                    "may").contains(word)) {
                throw none();
            }
            at++;
            switch (word) {
                case "sea" -> {
                    once(word, place);
                    if (told.contains("cells")) {
                        throw new Fault(4, place);
                    }
                    w.wide = number(1, 8);
                    w.high = number(1, 8);
                }
                case "land" -> {
                    if (w.land.size() == 20) {
                        throw new Fault(2, place);
                    }
                    int x = number(0, w.wide - 1);
                    int yPlace = place();
                    int cell = number(0, w.high - 1) * w.wide + x;
                    if (w.land.contains(cell)) {
                        throw new Fault(3, yPlace);
                    }
                    boolean hit = told.contains("ship") && w.ship == cell || told.contains("bahia") && w.bahia == cell;
                    for (Isle isle : w.isles) {
                        hit |= isle.cell == cell;
                    }
                    if (hit) {
                        throw new Fault(5, yPlace);
                    }
                    w.land.add(cell);
                    told.add("cells");
                }
                case "ship", "bahia" -> {
                    once(word, place);
                    int cell = water();
                    if (word.equals("ship")) {
                        w.ship = cell;
                    } else {
                        w.bahia = cell;
                    }
                    told.add("cells");
                }
                case "isle" -> {
                    if (w.isles.size() == 3) {
                        throw new Fault(2, place);
                    }
                    Set<String> had = new HashSet<>();
                    for (Isle i : w.isles) {
                        had.add(i.name);
                    }
                    Isle isle = new Isle();
                    isle.name = name(had);
                    isle.cell = water();
                    isle.reach = number(0, 9);
                    isle.goats = number(1, 9);
                    w.isles.add(isle);
                    told.add("cells");
                }
                case "wind" -> {
                    once(word, place);
                    w.wind.clear();
                    do {
                        if (isNumber() && w.wind.size() == 8) {
                            throw new Fault(2, place());
                        }
                        w.wind.add(number(0, 3));
                    } while (isNumber());
                }
                case "gale" -> {
                    if (w.gales.size() == 4) {
                        throw new Fault(2, place);
                    }
                    w.gales.add(new int[] {number(0, 59), number(0, 3), number(1, 99)});
                }
                case "storm" -> {
                    once(word, place);
                    w.storm = number(0, 99);
                    w.stormPlates = number(1, 99);
                }
                case "soup" -> {
                    once(word, place);
                    w.soup = number(0, 9999);
                }
                case "seed" -> {
                    once(word, place);
                    w.seed = number(0, 99999);
                }
                default -> man(word.equals("may"), place);
            }
        }

        int water() throws Fault {
            int x = number(0, w.wide - 1);
            int yPlace = place();
            int cell = number(0, w.high - 1) * w.wide + x;
            if (w.land.contains(cell)) {
                throw new Fault(5, yPlace);
            }
            return cell;
        }

        void man(boolean may, int place) throws Fault {
            List<Man> list = may ? w.mays : w.mouths;
            if (list.size() == (may ? 4 : 5)) {
                throw new Fault(2, place);
            }
            Set<String> had = new HashSet<>();
            for (Man m : w.all()) {
                had.add(m.name);
            }
            Man m = new Man();
            m.name = name(had);
            m.plates = number(0, 9);
            if (may) {
                word("odds");
                m.odds = number(1, 99);
            }
            Set<String> rest = new HashSet<>();
            while (Arrays.asList("from", "till", "sick", "loses").contains(now())) {
                String word = now();
                if (!rest.add(word)) {
                    throw new Fault(3, place());
                }
                at++;
                int numberPlace = place();
                switch (word) {
                    case "from" -> {
                        m.from = number(0, 59);
                        if (m.from > m.till) {
                            throw new Fault(2, numberPlace);
                        }
                    }
                    case "till" -> {
                        m.till = number(0, 59);
                        if (m.from > m.till) {
                            throw new Fault(2, numberPlace);
                        }
                    }
                    case "sick" -> {
                        m.sick = number(0, 59);
                        m.well = number(m.sick, 59);
                    }
                    default -> m.loses = number(1, 99);
                }
            }
            m.law = e();
            list.add(m);
        }

        void knot() throws Fault {
            if (w.knots == 64) {
                throw new Fault(2, place());
            }
            w.knots++;
            at++;
        }

        Tree e() throws Fault {
            Tree left = a();
            while (now().equals("or")) {
                knot();
                Tree l = left;
                Tree r = a();
                left = v -> (l.of(v) != 0 | r.of(v) != 0) ? 1 : 0;
            }
            return left;
        }

        Tree a() throws Fault {
            Tree left = b();
            while (now().equals("and")) {
                knot();
                Tree l = left;
                Tree r = b();
                left = v -> (l.of(v) != 0 & r.of(v) != 0) ? 1 : 0;
            }
            return left;
        }

        Tree b() throws Fault {
            if (now().equals("not")) {
                knot();
                Tree of = b();
                return v -> of.of(v) == 0 ? 1 : 0;
            }
            Tree l = s();
            String sign = now();
            if (!Arrays.asList("<", "<=", "=", "<>", ">=", ">").contains(sign)) {
                return l;
            }
            knot();
            Tree r = s();
            return v -> {
                int c = Long.compare(l.of(v), r.of(v));
                return switch (sign) {
                    case "<" -> c < 0;
                    case "<=" -> c <= 0;
                    case "=" -> c == 0;
                    case "<>" -> c != 0;
                    case ">=" -> c >= 0;
                    default -> c > 0;
                } ? 1 : 0;
            };
        }

        static long whole(java.math.BigInteger n) {
            if (n.abs().compareTo(java.math.BigInteger.TEN.pow(12)) > 0) {
                throw new Wrong();
            }
            return n.longValueExact();
        }

        static java.math.BigInteger big(long n) {
            return java.math.BigInteger.valueOf(n);
        }

        Tree s() throws Fault {
            Tree left = t();
            while (now().equals("+") || now().equals("-")) {
                boolean plus = now().equals("+");
                knot();
                Tree l = left;
                Tree r = t();
                left = v -> whole(plus ? big(l.of(v)).add(big(r.of(v))) : big(l.of(v)).subtract(big(r.of(v))));
            }
            return left;
        }

        Tree t() throws Fault {
            Tree left = p();
            while (now().equals("*") || now().equals("/")) {
                boolean times = now().equals("*");
                knot();
                Tree l = left;
                Tree r = p();
                left = v -> {
                    long a = l.of(v);
                    long b = r.of(v);
                    if (!times && b == 0) {
                        throw new Wrong();
                    }
                    return whole(times ? big(a).multiply(big(b)) : big(a).divide(big(b)));
                };
            }
            return left;
        }

        Tree p() throws Fault {
            if (isNumber()) {
                int keep = at;
                long n = number(0, 9999);
                at = keep;
                knot();
                return v -> n;
            }
            if (NAMES.contains(now())) {
                String name = now();
                knot();
                return v -> v.get(name);
            }
            if (!now().equals("(")) {
                throw none();
            }
            if (open == 8) {
                throw new Fault(2, place());
            }
            open++;
            at++;
            Tree in = e();
            word(")");
            open--;
            return in;
        }
    }

    static final class State {
        int meal = 0;
        int ship;
        int soup;
        long number;
        int fed;
        int may = 0;
        int[] lost = new int[9];
        boolean[] leapt = new boolean[9];
        List<int[]> log = new ArrayList<>();

        State(World w) {
            ship = w.ship;
            soup = w.soup;
            number = w.seed;
            fed = (1 << w.mouths.size()) - 1;
        }

        State(State s) {
            meal = s.meal;
            ship = s.ship;
            soup = s.soup;
            number = s.number;
            fed = s.fed;
            may = s.may;
            lost = s.lost.clone();
            leapt = s.leapt.clone();
            log = new ArrayList<>(s.log);
        }

        int draw() {
            number = (number * 1103515245L + 12345L) % (1L << 31);
            return (int) (number / 65536);
        }
    }

    World w = new World();
    State s = new State(w);
    List<State> past = new ArrayList<>();
    State image = null;
    List<int[]> notes = new ArrayList<>();
    int known = -1;
    StringBuilder tape = new StringBuilder();
    int faultKind = 0;
    int faultPlace = -1;
    // what a MEAL is held with
    int trial = -1;
    int absent = -1;
    boolean calm = false;

    int feed(int a, int b, int c, int d, int e) {
        if (tape.length() + 20 > 800) {
            return -1;
        }
        for (int n : new int[] {a, b, c, d, e}) {
            for (int k = 3; k >= 0; k--) {
                tape.append((char) (n >>> 8 * k & 255));
            }
        }
        return tape.length();
    }

    int text(int n) {
        if (n < 0 || n > tape.length()) {
            return -2;
        }
        String text = tape.substring(0, n);
        tape.setLength(0);
        try {
            w = new Parser(text).read();
        } catch (Fault f) {
            faultKind = f.kind;
            faultPlace = f.place;
            return -1;
        }
        faultKind = 0;
        faultPlace = -1;
        s = new State(w);
        past.clear();
        image = null;
        notes.clear();
        known = -1;
        return w.lines;
    }

    int fault(int what) {
        return what == 0 ? faultKind : what == 1 ? faultPlace : -1;
    }

    int named(int what, int letters) {
        List<String> names = new ArrayList<>();
        if (what == 0) {
            w.isles.forEach(i -> names.add(i.name));
        } else if (what == 1) {
            w.all().forEach(m -> names.add(m.name));
        }
        for (int i = 0; i < names.size(); i++) {
            if (CheckKit.letters(names.get(i)) == letters) {
                return i;
            }
        }
        return -1;
    }

    boolean aboard(State st, int i) {
        Man m = w.all().get(i);
        boolean is = i < w.mouths.size() || (st.may >> (i - w.mouths.size())) % 2 == 1;
        return is && m.from <= st.meal && m.till >= st.meal && !st.leapt[i] && !(trial == 3 && absent == i);
    }

    int told(State st, int i) {
        Man m = w.all().get(i);
        return trial != 0 && m.sick <= st.meal && st.meal <= m.well ? 0 : m.plates;
    }

    boolean gets(int fed, int i) {
        return i >= w.mouths.size() || (fed >> i) % 2 == 1;
    }

    int look(int mouth, int what) {
        if (mouth < 0 || mouth >= w.all().size()) {
            throw new IndexOutOfBoundsException();
        }
        return switch (what) {
            case 0 -> aboard(s, mouth) ? 1 : 0;
            case 1 -> told(s, mouth);
            case 2 -> s.lost[mouth];
            case 3 -> s.leapt[mouth] ? 1 : 0;
            case 4 -> gets(s.fed, mouth) ? 1 : 0;
            default -> throw new NoSuchElementException();
        };
    }

    int ship(int what) {
        if (what == 3) {
            int cell = w.ship;
            for (int t = 0;; t++) {
                if (cell == w.bahia) {
                    return t;
                }
                if (t == s.meal) {
                    return -1;
                }
                cell = s.log.get(t)[2];
            }
        }
        return what == 0 ? s.ship : what == 1 ? w.bahia : what == 2 ? s.soup : -1;
    }

    int far(int one, int other) {
        return w.cell(one) && w.cell(other) ? w.far(one, other) : -1;
    }

    int land(int cell) {
        return !w.cell(cell) ? -1 : w.land.contains(cell) ? 1 : 0;
    }

    int windAt(int meal) {
        return w.wind.get(meal % w.wind.size());
    }

    long worth(State st, int i, int course, int plates) {
        Map<String, Long> names = new HashMap<>();
        int cell = w.to(st.ship, course);
        names.put("course", (long) course);
        names.put("far", (long) w.far(cell, w.bahia));
        names.put("windy", windAt(st.meal) == course ? 1L : 0L);
        names.put("meal", (long) st.meal);
        names.put("plates", (long) plates);
        names.put("lost", (long) st.lost[i]);
        names.put("stock", (long) st.soup);
        return w.all().get(i).law.of(names);
    }

    List<Integer> courses(State st) {
        List<Integer> open = new ArrayList<>();
        for (int c = 0; c < 4; c++) {
            int cell = w.to(st.ship, c);
            if (cell >= 0 && !w.land.contains(cell)) {
                open.add(c);
            }
        }
        return open;
    }

    int greatest(List<Integer> of, ToLongFunction<Integer> worth) {
        int best = -1;
        for (int c : of) {
            if (best < 0 || worth.applyAsLong(c) > worth.applyAsLong(best)) {
                best = c;
            }
        }
        return best;
    }

    long calmWorth(State st, int i, int course, int plates) {
        try {
            return worth(st, i, course, plates);
        } catch (Wrong e) {
            return 0;
        }
    }

    /** Plates, wishes (-1: no vote) and votes of a MEAL without its STORM. */
    int[][] table(State st, int fed) {
        int men = w.all().size();
        int[] plates = new int[men];
        int[] wishes = new int[men];
        int[] votes = new int[4];
        int left = st.soup;
        for (int i = 0; i < men; i++) {
            wishes[i] = -1;
            if (!aboard(st, i) || !gets(fed, i)) {
                continue;
            }
            plates[i] = Math.min(told(st, i), left);
            if (trial != 4) {
                left -= plates[i];
            }
            if (plates[i] > 0) {
                int man = i;
                wishes[i] = greatest(courses(st), c -> calmWorth(st, man, c, plates[man]));
                if (wishes[i] >= 0) {
                    votes[wishes[i]] += plates[i];
                }
            }
        }
        for (Isle isle : w.isles) {
            if (trial != 1 && w.far(st.ship, isle.cell) <= isle.reach) {
                int c = greatest(courses(st), k -> -w.far(w.to(st.ship, k), isle.cell));
                if (c >= 0 && w.far(w.to(st.ship, c), isle.cell) < 99) {
                    votes[c] += isle.goats;
                }
            }
        }
        for (int[] gale : w.gales) {
            if (trial != 2 && gale[0] == st.meal) {
                votes[gale[1]] += gale[2];
            }
        }
        return new int[][] {plates, wishes, votes};
    }

    void meal(State st, int fed) {
        int[][] table = table(st, fed);
        int storm = -1;
        if (w.storm != 0 && trial != 2 && !calm && st.draw() % 100 < w.storm) {
            storm = st.draw() % 4;
            table[2][storm] += w.stormPlates;
        }
        int course = greatest(List.of(0, 1, 2, 3), c -> table[2][c]);
        if (table[2][course] == 0) {
            course = windAt(st.meal);
        }
        int cell = w.to(st.ship, course);
        if (cell >= 0 && !w.land.contains(cell)) {
            st.ship = cell;
        }
        int eaten = Arrays.stream(table[0]).sum();
        if (trial != 4) {
            st.soup -= eaten;
        }
        for (int i = 0; i < w.all().size(); i++) {
            if (table[1][i] >= 0) {
                st.lost[i] = table[1][i] == course ? 0 : st.lost[i] + 1;
                if (st.lost[i] >= w.all().get(i).loses && trial != 5) {
                    st.leapt[i] = true;
                }
            }
        }
        st.log.add(new int[] {course, eaten, st.ship, storm, fed});
        st.meal++;
    }

    boolean next() {
        return s.meal < 60;
    }

    int wish(int mouth) {
        if (mouth < 0 || mouth >= w.all().size() || !next()) {
            return -1;
        }
        int wish = table(s, s.fed)[1][mouth];
        return wish < 0 ? -2 : wish;
    }

    long law(int mouth, int course, int plates) {
        if (mouth < 0 || mouth >= w.all().size() || course < 0 || course > 3 || plates < 0 || plates > 9 || !next()
                || w.to(s.ship, course) < 0) {
            return Long.MIN_VALUE;
        }
        try {
            return worth(s, mouth, course, plates);
        } catch (Wrong e) {
            return Long.MIN_VALUE;
        }
    }

    int votes(int course) {
        return course < 0 || course > 3 || !next() ? -1 : table(s, s.fed)[2][course];
    }

    boolean fed(int mouths) {
        if (mouths < 0 || mouths >> w.mouths.size() != 0) {
            return false;
        }
        s.fed = mouths;
        return true;
    }

    boolean truth(int may) {
        if (may < 0 || may >> w.mays.size() != 0) {
            return false;
        }
        s.may = may;
        return true;
    }

    int meals(int n) {
        if (n < 0 || n > 60 || s.meal + n > 60) {
            return -1;
        }
        for (int k = 0; k < n; k++) {
            past.add(new State(s));
            if (past.size() > 20) {
                past.remove(0);
            }
            meal(s, s.fed);
        }
        return s.meal;
    }

    int log(int meal, int what) {
        return meal < 0 || meal >= s.meal || what < 0 || what > 3 ? -1 : s.log.get(meal)[what];
    }

    /** All plans: {soup, meals, sets ..}, the least of them by these in this order. */
    private int[] plans(State st, int n, int soup, int[] sets) {
        if (st.ship == w.bahia) {
            int[] plan = new int[2 + sets.length];
            plan[0] = soup;
            plan[1] = sets.length;
            System.arraycopy(sets, 0, plan, 2, sets.length);
            return plan;
        }
        int[] best = null;
        for (int set = 0; n > 0 && set < 1 << w.mouths.size(); set++) {
            State after = new State(st);
            meal(after, set);
            int[] longer = Arrays.copyOf(sets, sets.length + 1);
            longer[sets.length] = set;
            int[] plan = plans(after, n - 1, soup + after.log.get(st.meal)[1], longer);
            if (plan != null && (best == null || Arrays.compare(plan, best) < 0)) {
                best = plan;
            }
        }
        return best;
    }

    int plan(int n, int what) {
        if (n < 1 || n > 3 || what < -1 || what > 2 || s.meal + n > 60) {
            return -1;
        }
        calm = true;
        int[] plan = plans(s, n, 0, new int[0]);
        calm = false;
        if (plan == null || what >= plan[1]) {
            return -2;
        }
        return what < 0 ? plan[0] : plan[2 + what];
    }

    private void orders(List<Integer> come, int ahead, int all, int one, long[] counts) {
        if (come.isEmpty()) {
            counts[1]++;
            return;
        }
        for (int k = 0; k < come.size(); k++) {
            List<Integer> rest = new ArrayList<>(come);
            int who = rest.remove(k);
            int with = ahead + told(s, who);
            if (2 * ahead <= all && 2 * with > all && who == one) {
                long f = 1;
                for (int j = 2; j <= rest.size(); j++) {
                    f *= j;
                }
                counts[0] += f;
            }
            orders(rest, with, all, one, counts);
        }
    }

    int power(int mouth, int what) {
        if (mouth < 0 || mouth >= w.all().size() || what < 0 || what > 1 || !next() || !aboard(s, mouth)) {
            return -1;
        }
        List<Integer> who = new ArrayList<>();
        int all = 0;
        for (int i = 0; i < w.all().size(); i++) {
            if (aboard(s, i)) {
                who.add(i);
                all += told(s, i);
            }
        }
        long[] counts = new long[2];
        orders(who, 0, all, mouth, counts);
        return least(counts[0], counts[1], what);
    }

    static int least(long above, long below, int what) {
        java.math.BigInteger g = Parser.big(above).gcd(Parser.big(below));
        return (int) ((what == 0 ? above : below) / g.longValue());
    }

    int note(int... note) {
        if (notes.size() == 32) {
            return -1;
        }
        notes.add(note);
        return notes.size() - 1;
    }

    int taken(int meal, int course) {
        return meal < 0 || meal >= s.meal || course < 0 || course > 3 ? -1 : note(0, meal, course);
    }

    int washed(int meal, int plates) {
        return meal < 0 || meal >= s.meal || plates < 0 || plates > 99 ? -1 : note(1, meal, plates);
    }

    int strike(int note) {
        return note < 0 || note >= notes.size() ? -1 : note(2, note);
    }

    boolean known(int n) {
        if (n < -1 || n > notes.size()) {
            return false;
        }
        known = n;
        return true;
    }

    private boolean struck(int note, int n) {
        for (int k = note + 1; k < n; k++) {
            if (notes.get(k)[0] == 2 && notes.get(k)[1] == note && !struck(k, n)) {
                return true;
            }
        }
        return false;
    }

    List<Integer> knownOnes() {
        int n = known < 0 ? notes.size() : known;
        List<Integer> ones = new ArrayList<>();
        for (int k = 0; k < n; k++) {
            if (!struck(k, n)) {
                ones.add(k);
            }
        }
        return ones;
    }

    private boolean so(int[] note, State st) {
        return note[0] == 2 || note[1] < st.meal && st.log.get(note[1])[note[0]] == note[2];
    }

    int fits() {
        int bits = 0;
        for (int set = 0; set < 1 << w.mays.size(); set++) {
            State st = new State(w);
            st.may = set;
            while (st.meal < s.meal) {
                meal(st, s.log.get(st.meal)[4]);
            }
            boolean all = true;
            for (int k : knownOnes()) {
                all &= so(notes.get(k), st);
            }
            bits |= all ? 1 << set : 0;
        }
        return bits;
    }

    int sure(int may) {
        if (may < 0 || may >= w.mays.size()) {
            return -1;
        }
        int fits = fits();
        Set<Integer> in = new HashSet<>();
        for (int set = 0; set < 16; set++) {
            if ((fits >> set) % 2 == 1) {
                in.add((set >> may) % 2);
            }
        }
        return in.isEmpty() ? -2 : in.size() == 2 ? 2 : Collections.max(in);
    }

    int odds(int may, int what) {
        if (may < 0 || may >= w.mays.size() || what < 0 || what > 1) {
            return -1;
        }
        int fits = fits();
        long above = 0;
        long below = 0;
        for (int set = 0; set < 1 << w.mays.size(); set++) {
            long weight = (fits >> set) % 2;
            for (int i = 0; i < w.mays.size(); i++) {
                weight *= (set >> i) % 2 == 1 ? w.mays.get(i).odds : 100 - w.mays.get(i).odds;
            }
            below += weight;
            above += weight * ((set >> may) % 2);
        }
        return below == 0 ? what : least(above, below, what);
    }

    int fraud() {
        for (int k : knownOnes()) {
            if (!so(notes.get(k), s)) {
                return k;
            }
        }
        return -1;
    }

    int tried(int what, int i, int n) {
        if (what < 0 || what > 5 || n < 0 || n > 60 || s.meal + n > 60
                || (what == 3 ? i < 0 || i >= w.all().size() : i != 0)) {
            return -1;
        }
        State st = new State(s);
        trial = what;
        absent = i;
        for (int k = 0; k < n; k++) {
            meal(st, st.fed);
        }
        trial = -1;
        return st.ship;
    }

    int undo() {
        if (past.isEmpty()) {
            return -1;
        }
        s = past.remove(past.size() - 1);
        return past.size();
    }

    int keep() {
        image = new State(s);
        return s.meal;
    }

    int back() {
        if (image == null) {
            return -1;
        }
        s = new State(image);
        past.clear();
        return s.meal;
    }

    int count(int what) {
        int aboard = 0;
        for (int i = 0; i < w.all().size(); i++) {
            aboard += aboard(s, i) ? 1 : 0;
        }
        int[] counts = {w.wide, w.high, w.mouths.size(), w.mays.size(), w.isles.size(), w.knots, s.meal, notes.size(),
            known < 0 ? notes.size() : known, past.size(), aboard};
        return what < 0 || what >= counts.length ? -1 : counts[what];
    }
}
