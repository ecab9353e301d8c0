import java.util.NoSuchElementException;

/**
 * The stowaway's vote: a ship on a sea of cells, whose course is voted at meals by plates.
 * Words in capitals are the document's terms.
 */
public final class PlateVote {
    public static final int NONE = -1;

    private static final int NO_VOTE = -2;
    private static final int NOTHING = -2;
    private static final int COURSES = 4;
    private static final int CELLS = 64;
    private static final int MEALS = 60;
    private static final int ISLES = 3;
    private static final int MOUTHS = 5;
    private static final int MAYS = 4;
    private static final int CREW = MOUTHS + MAYS;
    private static final int MOST_PLATES = 9;
    private static final int NOWHERE = 99;
    private static final int UNDO = 20;
    private static final int TAPE = 800;
    private static final int PLAN_MEALS = 3;
    private static final int[] ORDERS = {1, 1, 2, 6, 24, 120, 720, 5040, 40320, 362880};

    private final byte[] tape = new byte[TAPE];
    private int taped = 0;
    private Chart chart = new Chart();
    private Chart spare = new Chart();
    private final Reader reader = new Reader(tape, spare);
    private final Galley galley = new Galley(chart);
    private final Planner planner = new Planner(galley);
    private final Voyage now = new Voyage();
    private final Log gone = new Log();
    private final Voyage[] past = new Voyage[UNDO];
    private int undoable = 0;
    private final Voyage image = new Voyage();
    private final Log imageLog = new Log();
    private boolean imaged = false;
    private final Notes notes = new Notes();
    private final Voyage trip = new Voyage();
    /** The latest answer of fits(), NONE when something has changed since. */
    private int fitted = NONE;

    public PlateVote() {
        for (int i = 0; i < UNDO; i++) {
            past[i] = new Voyage();
        }
        now.begin(chart);
    }

    // ---- the text ----

    public int feed(int a, int b, int c, int d, int e) {
        if (taped < 0 || taped + 20 > TAPE) {
            return NONE;
        }
        tapeNumber(a);
        tapeNumber(b);
        tapeNumber(c);
        tapeNumber(d);
        tapeNumber(e);
        return taped;
    }

    private void tapeNumber(int number) {
        for (int shift = 24; shift >= 0 && taped < TAPE; shift -= 8) {
            tape[taped] = (byte) (number >> shift);
            taped++;
        }
    }

    public int text(int n) {
        if (n < 0 || n > taped) {
            return -2;
        }
        taped = 0;
        if (!reader.read(n, spare)) {
            return NONE;
        }
        Chart old = chart;
        chart = spare;
        spare = old;
        galley.chart = chart;
        now.begin(chart);
        notes.clear();
        imaged = false;
        undoable = 0;
        fitted = NONE;
        return reader.lines;
    }

    public int fault(int what) {
        if (what == 0) {
            return reader.faultKind;
        }
        return what == 1 ? reader.faultPlace : NONE;
    }

    public int named(int what, int letters) {
        if (what == 0) {
            return chart.sea.isleNamed(letters);
        }
        return what == 1 ? chart.mouthNamed(letters) : NONE;
    }

    // ---- what there is now ----

    public int look(int mouth, int what) throws IndexOutOfBoundsException, NoSuchElementException {
        if (!chart.isMouth(mouth)) {
            throw new IndexOutOfBoundsException("no such mouth");
        }
        switch (what) {
            case 0:
                return galley.isAboard(now, mouth) ? 1 : 0;
            case 1:
                return galley.portion(now, mouth);
            case 2:
                return now.lost[mouth];
            case 3:
                return now.leapt >> mouth & 1;
            case 4:
                return galley.isFed(mouth, now.fed) ? 1 : 0;
            default:
                throw new NoSuchElementException("no such what");
        }
    }

    public int ship(int what) {
        switch (what) {
            case 0:
                return now.cell;
            case 1:
                return chart.sea.bahia;
            case 2:
                return now.soup;
            case 3:
                return now.arrived;
            default:
                return NONE;
        }
    }

    public int far(int one, int other) {
        if (!chart.sea.isCell(one) || !chart.sea.isCell(other)) {
            return NONE;
        }
        return chart.sea.between(one, other);
    }

    public int land(int cell) {
        if (!chart.sea.isCell(cell)) {
            return NONE;
        }
        return chart.sea.isLand(cell) ? 1 : 0;
    }

    private boolean mealIsNext() {
        return now.meal < MEALS;
    }

    public int wish(int mouth) {
        if (!chart.isMouth(mouth) || !mealIsNext()) {
            return NONE;
        }
        galley.serve(now, now.fed);
        int plates = galley.plates[mouth];
        if (plates < 1) {
            return NO_VOTE;
        }
        int course = galley.wishOf(now, mouth, plates);
        return course == NONE ? NO_VOTE : course;
    }

    public long law(int mouth, int course, int plates) {
        if (!chart.isMouth(mouth) || !isCourse(course) || plates < 0 || plates > MOST_PLATES || !mealIsNext()) {
            return Code.ERROR;
        }
        int cell = chart.sea.step(now.cell, course);
        return cell == NONE ? Code.ERROR : galley.value(now, mouth, course, cell, plates);
    }

    public int votes(int course) {
        if (!isCourse(course) || !mealIsNext()) {
            return NONE;
        }
        galley.serve(now, now.fed);
        galley.poll(now);
        return galley.votes[course];
    }

    private static boolean isCourse(int course) {
        return course >= 0 && course < COURSES;
    }

    // ---- meals ----

    public boolean fed(int mouths) {
        if (mouths < 0 || mouths >= 1 << chart.mouths) {
            return false;
        }
        now.fed = mouths;
        return true;
    }

    public boolean truth(int may) {
        if (may < 0 || may >= 1 << chart.mays) {
            return false;
        }
        now.may = may;
        return true;
    }

    public int meals(int n) {
        if (n < 0 || n > MEALS || now.meal + n > MEALS) {
            return NONE;
        }
        for (int k = 0; k < n; k++) {
            holdMeal();
        }
        return now.meal;
    }

    private void holdMeal() {
        int meal = now.meal;
        if (meal < 0 || meal >= MEALS) {
            return;
        }
        past[meal % UNDO].copyFrom(now);
        undoable = Math.min(UNDO, undoable + 1);
        int course = galley.hold(now, now.fed);
        gone.course[meal] = course;
        gone.plates[meal] = galley.eaten;
        gone.cell[meal] = now.cell;
        gone.storm[meal] = galley.storm;
        gone.fed[meal] = now.fed;
        fitted = NONE;
    }

    private boolean isGone(int meal) {
        return meal >= 0 && meal < now.meal && meal < MEALS;
    }

    public int log(int meal, int what) {
        if (!isGone(meal)) {
            return NONE;
        }
        switch (what) {
            case 0:
                return gone.course[meal];
            case 1:
                return gone.plates[meal];
            case 2:
                return gone.cell[meal];
            case 3:
                return gone.storm[meal];
            default:
                return NONE;
        }
    }

    public int plan(int n, int what) {
        if (n < 1 || n > PLAN_MEALS || what < NONE || what >= PLAN_MEALS || now.meal + n > MEALS) {
            return NONE;
        }
        planner.find(now, n);
        if (planner.bestMeals == NONE) {
            return NOTHING;
        }
        if (what == NONE) {
            return planner.bestSoup;
        }
        return what < planner.bestMeals ? planner.best[what] : NOTHING;
    }

    public int power(int mouth, int what) {
        if (what != 0 && what != 1) {
            return NONE;
        }
        if (!chart.isMouth(mouth) || !mealIsNext() || !galley.isAboard(now, mouth)) {
            return NONE;
        }
        int all = galley.aboard(now);
        int total = all >= 0 && all < ORDERS.length ? ORDERS[all] : 1;
        return part(galley.ordersDecidedBy(now, mouth), total, what);
    }

    /** The number above (what 0) or below (what 1) of a fraction in least terms. */
    private static int part(int above, int below, int what) {
        int common = above;
        int rest = below;
        for (int k = 0; k < CELLS && rest != 0; k++) {
            int next = common % rest;
            common = rest;
            rest = next;
        }
        int number = what == 0 ? above : below;
        return common == 0 ? number : number / common;
    }

    // ---- notes, and who can be aboard by them ----

    public int taken(int meal, int course) {
        if (!isGone(meal) || !isCourse(course)) {
            return NONE;
        }
        return note(Notes.TAKEN, meal, course);
    }

    public int washed(int meal, int plates) {
        if (!isGone(meal) || plates < 0 || plates > 99) {
            return NONE;
        }
        return note(Notes.WASHED, meal, plates);
    }

    public int strike(int note) {
        if (note < 0 || note >= notes.size) {
            return NONE;
        }
        return note(Notes.STRIKE, NONE, note);
    }

    private int note(int kind, int meal, int value) {
        fitted = NONE;
        return notes.add(kind, meal, value);
    }

    public boolean known(int n) {
        if (n < NONE || n > notes.size) {
            return false;
        }
        notes.limit = n;
        fitted = NONE;
        return true;
    }

    public int fits() {
        return fitting();
    }

    private int fitting() {
        if (fitted != NONE) {
            return fitted;
        }
        notes.sift();
        int until = notes.latestMeal() + 1;
        int sets = 0;
        // A note of a meal that has been undone is so with no set.
        for (int set = 0; until <= now.meal && set < 1 << chart.mays; set++) {
            trip.begin(chart);
            trip.may = set;
            boolean agrees = true;
            for (int meal = 0; agrees && meal < until && meal < MEALS; meal++) {
                int course = galley.hold(trip, gone.fed[meal]);
                agrees = notes.firstFalse(meal, course, galley.eaten) == NONE;
            }
            sets |= agrees ? 1 << set : 0;
        }
        fitted = sets;
        return sets;
    }

    public int sure(int may) {
        if (may < 0 || may >= chart.mays) {
            return NONE;
        }
        int fit = fitting();
        if (fit == 0) {
            return NOTHING;
        }
        int with = 0;
        int without = 0;
        for (int set = 0; set < 1 << chart.mays; set++) {
            int counts = fit >> set & 1;
            if ((set >> may & 1) == 1) {
                with += counts;
            } else {
                without += counts;
            }
        }
        if (without == 0) {
            return 1;
        }
        return with == 0 ? 0 : 2;
    }

    public int odds(int may, int what) {
        if (may < 0 || may >= chart.mays || (what != 0 && what != 1)) {
            return NONE;
        }
        int fit = fitting();
        if (fit == 0) {
            return what;
        }
        int with = 0;
        int all = 0;
        for (int set = 0; set < 1 << chart.mays; set++) {
            if ((fit >> set & 1) == 1) {
                int weight = chart.weight(set);
                all += weight;
                with += (set >> may & 1) == 1 ? weight : 0;
            }
        }
        return part(with, all, what);
    }

    public int fraud() {
        notes.sift();
        int first = notes.firstFrom(now.meal);
        for (int meal = 0; meal < now.meal && meal < MEALS; meal++) {
            int wrong = notes.firstFalse(meal, gone.course[meal], gone.plates[meal]);
            if (wrong != NONE && (first == NONE || wrong < first)) {
                first = wrong;
            }
        }
        return first;
    }

    // ---- tried otherwise, undone, kept ----

    public int tried(int what, int i, int n) {
        if (what < Galley.NOT_SICK || what > Galley.NO_LEAPS || n < 0 || n > MEALS || now.meal + n > MEALS) {
            return NONE;
        }
        if (what == Galley.WITHOUT_ONE ? !chart.isMouth(i) : i != 0) {
            return NONE;
        }
        trip.copyFrom(now);
        galley.trial = what;
        galley.absent = i;
        for (int k = 0; k < n; k++) {
            galley.hold(trip, trip.fed);
        }
        galley.trial = NONE;
        return trip.cell;
    }

    public int undo() {
        int meal = now.meal - 1;
        if (undoable < 1 || meal < 0) {
            return NONE;
        }
        now.copyFrom(past[meal % UNDO]);
        undoable--;
        fitted = NONE;
        return undoable;
    }

    public int keep() {
        image.copyFrom(now);
        imageLog.copyFrom(gone);
        imaged = true;
        return now.meal;
    }

    public int back() {
        if (!imaged) {
            return NONE;
        }
        now.copyFrom(image);
        gone.copyFrom(imageLog);
        undoable = 0;
        fitted = NONE;
        return now.meal;
    }

    public int count(int what) {
        switch (what) {
            case 0:
                return chart.sea.wide;
            case 1:
                return chart.sea.high;
            case 2:
                return chart.mouths;
            case 3:
                return chart.mays;
            case 4:
                return chart.sea.isles;
            case 5:
                return chart.code.size;
            case 6:
                return now.meal;
            case 7:
                return notes.size;
            case 8:
                return notes.inForce();
            case 9:
                return undoable;
            case 10:
                return galley.aboard(now);
            default:
                return NONE;
        }
    }

    /** All that a TEXT tells. */
    static final class Chart {
        static final int WINDS = 8;
        static final int GALES = 4;

        final Sea sea = new Sea();
        final Code code = new Code();
        /** Mouths first, then those who may be aboard, with no gap once the text has been read. */
        final Mouth[] crew = new Mouth[CREW];
        int mouths = 0;
        int mays = 0;
        final int[] wind = new int[WINDS];
        int winds = 0;
        final int[] galeMeal = new int[GALES];
        final int[] galeCourse = new int[GALES];
        final int[] galePlates = new int[GALES];
        int gales = 0;
        int stormOdds = 0;
        int stormPlates = 1;
        int soup = 0;
        int seed = 0;

        Chart() {
            for (int i = 0; i < CREW; i++) {
                crew[i] = new Mouth();
            }
            clear();
            sea.measure();
        }

        /** As without a text, but that the ways by water are not measured yet. */
        void clear() {
            sea.clear();
            code.size = 0;
            mouths = 0;
            mays = 0;
            winds = 0;
            gales = 0;
            stormOdds = 0;
            stormPlates = 1;
            soup = 100;
            seed = 0;
        }

        /** Ends the reading, in which those who may be aboard stand behind room for all mouths. */
        void close() {
            for (int i = 0; i < mays && mouths + i < CREW && MOUTHS + i < CREW; i++) {
                Mouth may = crew[MOUTHS + i];
                crew[MOUTHS + i] = crew[mouths + i];
                crew[mouths + i] = may;
            }
            sea.measure();
        }

        int size() {
            return Math.min(CREW, mouths + mays);
        }

        boolean isMouth(int i) {
            return i >= 0 && i < size();
        }

        int mouthNamed(int letters) {
            for (int i = 0; i < size(); i++) {
                if (crew[i].name == letters) {
                    return i;
                }
            }
            return NONE;
        }

        int windAt(int meal) {
            if (winds < 1 || winds > WINDS || meal < 0) {
                return 0;
            }
            return wind[meal % winds];
        }

        /** How much a set of those who may be aboard weighs, of a hundred to the power of their number. */
        int weight(int set) {
            int product = 1;
            for (int i = 0; i < mays && mouths + i < CREW; i++) {
                int odds = crew[mouths + i].odds;
                product *= (set >> i & 1) == 1 ? odds : 100 - odds;
            }
            return product;
        }
    }

    /** One MOUTH, or one who may be aboard. */
    static final class Mouth {
        int name = 0;
        int plates = 0;
        int odds = 0;
        int from = 0;
        int till = 0;
        int sickFrom = 0;
        int sickTo = 0;
        int loses = 0;
        int codeFrom = 0;
        int codeTo = 0;

        void begin(int letters) {
            name = letters;
            plates = 0;
            odds = 0;
            from = 0;
            till = MEALS - 1;
            sickFrom = 0;
            sickTo = NONE;
            loses = 99;
            codeFrom = 0;
            codeTo = 0;
        }
    }

    /** Cells, land, isles, and how far they are by water. */
    static final class Sea {
        int wide = 4;
        int high = 4;
        /** LAND, a bit for each CELL. */
        long land = 0;
        int lands = 0;
        int start = 0;
        int bahia = 0;
        int isles = 0;
        final int[] isleName = new int[ISLES];
        final int[] isleCell = new int[ISLES];
        final int[] isleReach = new int[ISLES];
        final int[] isleGoats = new int[ISLES];
        /** FAR of each CELL from an ISLE, a row for each, then a row from BAHIA, then one to spare. */
        final int[] rows = new int[(ISLES + 2) * CELLS];
        final int[] queue = new int[CELLS];

        void clear() {
            wide = 4;
            high = 4;
            land = 0;
            lands = 0;
            start = 0;
            bahia = 0;
            isles = 0;
        }

        boolean isCell(int cell) {
            return cell >= 0 && cell < wide * high && cell < CELLS;
        }

        boolean isLand(int cell) {
            return isCell(cell) && (land >>> cell & 1L) != 0;
        }

        boolean isWater(int cell) {
            return isCell(cell) && (land >>> cell & 1L) == 0;
        }

        int isleNamed(int letters) {
            for (int i = 0; i < isles && i < ISLES; i++) {
                if (isleName[i] == letters) {
                    return i;
                }
            }
            return NONE;
        }

        boolean isIsle(int cell) {
            for (int i = 0; i < isles && i < ISLES; i++) {
                if (isleCell[i] == cell) {
                    return true;
                }
            }
            return false;
        }

        /** The CELL to which a COURSE leads, NONE outside. */
        int step(int cell, int course) {
            if (!isCell(cell) || wide < 1) {
                return NONE;
            }
            int x = cell % wide;
            switch (course) {
                case 0:
                    return cell >= wide ? cell - wide : NONE;
                case 1:
                    return x + 1 < wide ? cell + 1 : NONE;
                case 2:
                    return isCell(cell + wide) ? cell + wide : NONE;
                case 3:
                    return x > 0 ? cell - 1 : NONE;
                default:
                    return NONE;
            }
        }

        /** Works out the rows of the isles and of Bahia. */
        void measure() {
            for (int i = 0; i < isles && i < ISLES; i++) {
                spread(isleCell[i], i);
            }
            spread(bahia, ISLES);
        }

        /** Fills a row with FAR of each CELL from the given one. */
        private void spread(int from, int row) {
            int base = row * CELLS;
            if (base < 0 || base + CELLS > rows.length) {
                return;
            }
            for (int cell = 0; cell < CELLS; cell++) {
                rows[base + cell] = NOWHERE;
            }
            if (!isWater(from)) {
                return;
            }
            int queued = 1;
            queue[0] = from;
            rows[base + from] = 0;
            for (int k = 0; k < queued && k < CELLS; k++) {
                int cell = queue[k];
                for (int course = 0; course < COURSES; course++) {
                    int next = step(cell, course);
                    // A cell is queued once: no more than there are.
                    if (isWater(next) && rows[base + next] == NOWHERE && queued < CELLS) {
                        rows[base + next] = rows[base + cell] + 1;
                        queue[queued] = next;
                        queued++;
                    }
                }
            }
        }

        int fromBahia(int cell) {
            return cell >= 0 && cell < CELLS ? rows[ISLES * CELLS + cell] : NOWHERE;
        }

        int fromIsle(int isle, int cell) {
            boolean isThere = isle >= 0 && isle < ISLES && cell >= 0 && cell < CELLS;
            return isThere ? rows[isle * CELLS + cell] : NOWHERE;
        }

        int between(int one, int other) {
            spread(one, ISLES + 1);
            return other >= 0 && other < CELLS ? rows[(ISLES + 1) * CELLS + other] : NOWHERE;
        }
    }

    /** The E of all mouths, one behind the other, each with its signs behind what they join. */
    static final class Code {
        /** The least long there is, far below every value. */
        static final long ERROR = 0x8000000000000000L;
        static final long MOST = 1000000000000L;
        static final int KNOTS = 64;
        static final int NAMES = 7;

        static final int NUMBER = 0;
        static final int NAME = 1;
        static final int OR = 2;
        static final int AND = 3;
        static final int NOT = 4;
        static final int LESS = 5;
        static final int AT_MOST = 6;
        static final int SAME = 7;
        static final int OTHER = 8;
        static final int AT_LEAST = 9;
        static final int MORE = 10;
        static final int PLUS = 11;
        static final int MINUS = 12;
        static final int TIMES = 13;
        static final int OVER = 14;

        final int[] knot = new int[KNOTS];
        final int[] what = new int[KNOTS];
        int size = 0;
        final long[] names = new long[NAMES];
        private final long[] stack = new long[KNOTS];

        void add(int kind, int value) {
            if (size >= 0 && size < KNOTS) {
                knot[size] = kind;
                what[size] = value;
                size++;
            }
        }

        /** The value of the knots from one to another with the names as they stand, or ERROR. */
        long work(int from, int to) {
            int top = 0;
            for (int k = Math.max(0, from); k < to && k < KNOTS; k++) {
                int kind = knot[k];
                if (kind == NUMBER || kind == NAME) {
                    if (top >= KNOTS) {
                        return ERROR;
                    }
                    int value = what[k];
                    stack[top] = kind == NAME && value >= 0 && value < NAMES ? names[value] : value;
                    top++;
                } else if (kind == NOT && top >= 1) {
                    stack[top - 1] = stack[top - 1] == 0 ? 1 : 0;
                } else if (top >= 2) {
                    top--;
                    long joined = join(kind, stack[top - 1], stack[top]);
                    if (joined > MOST || joined < -MOST) {
                        return ERROR;
                    }
                    stack[top - 1] = joined;
                } else {
                    return ERROR;
                }
            }
            return top == 1 ? stack[0] : ERROR;
        }

        private static long join(int kind, long a, long b) {
            switch (kind) {
                case OR:
                    return a != 0 || b != 0 ? 1 : 0;
                case AND:
                    return a != 0 && b != 0 ? 1 : 0;
                case LESS:
                    return a < b ? 1 : 0;
                case AT_MOST:
                    return a <= b ? 1 : 0;
                case SAME:
                    return a == b ? 1 : 0;
                case OTHER:
                    return a != b ? 1 : 0;
                case AT_LEAST:
                    return a >= b ? 1 : 0;
                case MORE:
                    return a > b ? 1 : 0;
                case PLUS:
                    return a + b;
                case MINUS:
                    return a - b;
                case TIMES:
                    // The product itself could wrap around and look small.
                    return a != 0 && Math.abs(b) > MOST / Math.abs(a) ? ERROR : a * b;
                case OVER:
                    return b == 0 ? ERROR : a / b;
                default:
                    return ERROR;
            }
        }
    }

    /** What changes from MEAL to MEAL, and by fed() and truth(). */
    static final class Voyage {
        int meal = 0;
        int cell = 0;
        int soup = 0;
        /** The last of the numbers, undivided. */
        long random = 0;
        int fed = 0;
        int may = 0;
        /** Who has LEAPT, as bits. */
        int leapt = 0;
        /** Ahead of which MEAL the SHIP was first at BAHIA. */
        int arrived = NONE;
        final int[] lost = new int[CREW];

        void begin(Chart chart) {
            meal = 0;
            cell = chart.sea.start;
            soup = chart.soup;
            random = chart.seed;
            fed = (1 << chart.mouths) - 1;
            may = 0;
            leapt = 0;
            arrived = cell == chart.sea.bahia ? 0 : NONE;
            for (int i = 0; i < CREW; i++) {
                lost[i] = 0;
            }
        }

        void copyFrom(Voyage that) {
            meal = that.meal;
            cell = that.cell;
            soup = that.soup;
            random = that.random;
            fed = that.fed;
            may = that.may;
            leapt = that.leapt;
            arrived = that.arrived;
            for (int i = 0; i < CREW; i++) {
                lost[i] = that.lost[i];
            }
        }

        int draw() {
            random = (random * 1103515245L + 12345L) & 0x7FFFFFFFL;
            return (int) (random / 65536L);
        }
    }

    /** The MEALS gone by. */
    static final class Log {
        final int[] course = new int[MEALS];
        final int[] plates = new int[MEALS];
        final int[] cell = new int[MEALS];
        final int[] storm = new int[MEALS];
        final int[] fed = new int[MEALS];

        void copyFrom(Log that) {
            for (int meal = 0; meal < MEALS; meal++) {
                course[meal] = that.course[meal];
                plates[meal] = that.plates[meal];
                cell[meal] = that.cell[meal];
                storm[meal] = that.storm[meal];
                fed[meal] = that.fed[meal];
            }
        }
    }

    /** Holds a MEAL: serves, polls, sails. Its rows tell of the MEAL that it held last. */
    static final class Galley {
        static final int NOT_SICK = 0;
        static final int NO_ISLES = 1;
        static final int NO_GALES = 2;
        static final int WITHOUT_ONE = 3;
        static final int SAME_SOUP = 4;
        static final int NO_LEAPS = 5;
        private static final int UNASKED = -2;
        private static final int PAGE = CREW * (MOST_PLATES + 1);

        Chart chart;
        /** What is tried otherwise, NONE if nothing is. */
        int trial = NONE;
        int absent = NONE;
        final int[] plates = new int[CREW];
        final int[] wishes = new int[CREW];
        final int[] votes = new int[COURSES];
        private final int[] shares = new int[CREW];
        int eaten = 0;
        int storm = NONE;
        /** Wishes by mouth and plates, a page for each MEAL of a plan. */
        private final int[] memo = new int[PLAN_MEALS * PAGE];
        private int memoBase = NONE;

        Galley(Chart first) {
            chart = first;
        }

        boolean isAboard(Voyage v, int i) {
            if (!chart.isMouth(i) || (v.leapt >> i & 1) == 1) {
                return false;
            }
            if (trial == WITHOUT_ONE && absent == i) {
                return false;
            }
            if (i >= chart.mouths && (v.may >> (i - chart.mouths) & 1) == 0) {
                return false;
            }
            Mouth mouth = chart.crew[i];
            return mouth.from <= v.meal && v.meal <= mouth.till;
        }

        int aboard(Voyage v) {
            int count = 0;
            for (int i = 0; i < chart.size(); i++) {
                count += isAboard(v, i) ? 1 : 0;
            }
            return count;
        }

        boolean isFed(int i, int fed) {
            return i >= chart.mouths || (fed >> i & 1) == 1;
        }

        /** Plates as told, none while sick. */
        int portion(Voyage v, int i) {
            if (!chart.isMouth(i)) {
                return 0;
            }
            Mouth mouth = chart.crew[i];
            boolean sick = mouth.sickFrom <= v.meal && v.meal <= mouth.sickTo;
            return sick && trial != NOT_SICK ? 0 : mouth.plates;
        }

        /** MOUTHS (without those who may be aboard) to whom it matters whether they are FED, as bits. */
        int hungry(Voyage v) {
            int bits = 0;
            for (int i = 0; i < chart.mouths && i < MOUTHS; i++) {
                bits |= isAboard(v, i) && portion(v, i) > 0 ? 1 << i : 0;
            }
            return bits;
        }

        void serve(Voyage v, int fed) {
            int left = v.soup;
            eaten = 0;
            for (int i = 0; i < chart.size(); i++) {
                plates[i] = 0;
                if (isFed(i, fed) && isAboard(v, i)) {
                    plates[i] = Math.min(portion(v, i), left);
                    eaten += plates[i];
                    left -= trial == SAME_SOUP ? 0 : plates[i];
                }
            }
        }

        /** E of a mouth for a COURSE that leads to the given CELL. */
        long value(Voyage v, int i, int course, int cell, int served) {
            if (!chart.isMouth(i)) {
                return Code.ERROR;
            }
            long[] names = chart.code.names;
            names[0] = course;
            names[1] = chart.sea.fromBahia(cell);
            names[2] = chart.windAt(v.meal) == course ? 1 : 0;
            names[3] = v.meal;
            names[4] = served;
            names[5] = v.lost[i];
            names[6] = v.soup;
            return chart.code.work(chart.crew[i].codeFrom, chart.crew[i].codeTo);
        }

        /** From now on wishes are kept on a page, since a plan asks the same ones for each set FED. */
        void openPage(int page) {
            usePage(page);
            for (int k = Math.max(0, memoBase); memoBase >= 0 && k < memoBase + PAGE; k++) {
                memo[k] = UNASKED;
            }
        }

        void usePage(int page) {
            memoBase = page >= 0 && page < PLAN_MEALS ? page * PAGE : NONE;
        }

        /** The COURSE that one with plates votes for, NONE if none leads to water. */
        int wishOf(Voyage v, int i, int served) {
            int place = memoBase + i * (MOST_PLATES + 1) + served;
            boolean keeps = memoBase >= 0 && place >= 0 && place < memo.length;
            if (keeps && memo[place] != UNASKED) {
                return memo[place];
            }
            int best = NONE;
            long most = 0;
            for (int course = 0; course < COURSES; course++) {
                int cell = chart.sea.step(v.cell, course);
                if (chart.sea.isWater(cell)) {
                    long value = value(v, i, course, cell, served);
                    value = value == Code.ERROR ? 0 : value;
                    if (best == NONE || value > most) {
                        best = course;
                        most = value;
                    }
                }
            }
            if (keeps) {
                memo[place] = best;
            }
            return best;
        }

        /** Counts the votes of those served, of isles and gales. */
        void poll(Voyage v) {
            for (int course = 0; course < COURSES; course++) {
                votes[course] = 0;
            }
            for (int i = 0; i < chart.size(); i++) {
                wishes[i] = plates[i] > 0 ? wishOf(v, i, plates[i]) : NONE;
                give(wishes[i], plates[i]);
            }
            Sea sea = chart.sea;
            for (int isle = 0; trial != NO_ISLES && isle < sea.isles && isle < ISLES; isle++) {
                if (sea.fromIsle(isle, v.cell) <= sea.isleReach[isle]) {
                    give(bribe(v, isle), sea.isleGoats[isle]);
                }
            }
            for (int k = 0; trial != NO_GALES && k < chart.gales && k < Chart.GALES; k++) {
                if (chart.galeMeal[k] == v.meal) {
                    give(chart.galeCourse[k], chart.galePlates[k]);
                }
            }
        }

        private void give(int course, int count) {
            if (isCourse(course)) {
                votes[course] += count;
            }
        }

        /** The COURSE for which an isle bribes, NONE if none leads to it. */
        private int bribe(Voyage v, int isle) {
            int best = NONE;
            int least = NOWHERE;
            for (int course = 0; course < COURSES; course++) {
                int far = chart.sea.fromIsle(isle, chart.sea.step(v.cell, course));
                if (far < least) {
                    best = course;
                    least = far;
                }
            }
            return best;
        }

        /** Lets a STORM come or not, behind poll(). */
        private void blow(Voyage v) {
            storm = NONE;
            int odds = chart.stormOdds;
            if (odds > 0 && trial != NO_GALES && v.draw() % 100 < odds) {
                storm = v.draw() % COURSES;
                give(storm, chart.stormPlates);
            }
        }

        /** The COURSE that is TAKEN by the votes as they stand. */
        int winner(Voyage v) {
            int best = chart.windAt(v.meal);
            int most = 0;
            for (int course = 0; course < COURSES; course++) {
                if (votes[course] > most) {
                    best = course;
                    most = votes[course];
                }
            }
            return best;
        }

        /** Where the SHIP comes by a COURSE. */
        int comesTo(Voyage v, int course) {
            int cell = chart.sea.step(v.cell, course);
            return chart.sea.isWater(cell) ? cell : v.cell;
        }

        /** Ends the MEAL that was served and polled. */
        void sail(Voyage v, int course) {
            v.cell = comesTo(v, course);
            v.soup -= trial == SAME_SOUP ? 0 : eaten;
            for (int i = 0; i < chart.size(); i++) {
                if (wishes[i] != NONE) {
                    v.lost[i] = wishes[i] == course ? 0 : v.lost[i] + 1;
                    if (v.lost[i] >= chart.crew[i].loses && trial != NO_LEAPS) {
                        v.leapt |= 1 << i;
                    }
                }
            }
            v.meal++;
            if (v.arrived == NONE && v.cell == chart.sea.bahia) {
                v.arrived = v.meal;
            }
        }

        /** A whole MEAL: the COURSE TAKEN. */
        int hold(Voyage v, int fed) {
            memoBase = NONE;
            serve(v, fed);
            poll(v);
            blow(v);
            int course = winner(v);
            sail(v, course);
            return course;
        }

        /** In how many orders of those ABOARD one brings them above half of all plates. */
        int ordersDecidedBy(Voyage v, int one) {
            int total = 0;
            int others = 0;
            int mine = portion(v, one);
            for (int i = 0; i < chart.size(); i++) {
                if (isAboard(v, i)) {
                    total += portion(v, i);
                    if (i != one && others < CREW) {
                        shares[others] = portion(v, i);
                        others++;
                    }
                }
            }
            int orders = 0;
            for (int set = 0; set < 1 << others; set++) {
                int ahead = 0;
                for (int k = 0; k < others && k < CREW; k++) {
                    ahead += (set >> k & 1) == 1 ? shares[k] : 0;
                }
                int came = Integer.bitCount(set);
                int come = others - came;
                if (ahead * 2 <= total && (ahead + mine) * 2 > total && come >= 0 && come < ORDERS.length
                        && came < ORDERS.length) {
                    orders += ORDERS[came] * ORDERS[come];
                }
            }
            return orders;
        }
    }

    /** Whom to feed to come to Bahia with the least soup. */
    static final class Planner {
        private final Galley galley;
        private final Voyage[] stages = new Voyage[PLAN_MEALS + 1];
        private final int[] fed = new int[PLAN_MEALS];
        final int[] best = new int[PLAN_MEALS];
        int bestSoup = 0;
        /** How many MEALS the best plan has, NONE: there is none. */
        int bestMeals = NONE;

        Planner(Galley first) {
            galley = first;
            for (int i = 0; i <= PLAN_MEALS; i++) {
                stages[i] = new Voyage();
            }
        }

        void find(Voyage from, int most) {
            bestMeals = NONE;
            bestSoup = 0;
            if (from.cell == galley.chart.sea.bahia) {
                bestMeals = 0;
                return;
            }
            stages[0].copyFrom(from);
            search(0, most, 0);
            galley.usePage(NONE);
        }

        private void search(int depth, int most, int eaten) {
            if (depth < 0 || depth >= most || depth >= PLAN_MEALS || isTooFar(stages[depth], most - depth)) {
                return;
            }
            Voyage here = stages[depth];
            int hungry = galley.hungry(here);
            galley.openPage(depth);
            for (int set = 0; set < 1 << MOUTHS; set++) {
                if ((set & ~hungry) != 0) {
                    // The same without those who do not eat stands ahead of it.
                    continue;
                }
                galley.usePage(depth);
                galley.serve(here, set);
                int soup = eaten + galley.eaten;
                if (isWorse(soup, depth + 1)) {
                    continue;
                }
                galley.poll(here);
                int course = galley.winner(here);
                fed[depth] = set;
                if (galley.comesTo(here, course) == galley.chart.sea.bahia) {
                    take(soup, depth + 1);
                } else if (depth + 1 < most) {
                    stages[depth + 1].copyFrom(here);
                    galley.sail(stages[depth + 1], course);
                    search(depth + 1, most, soup);
                }
            }
        }

        /** From LAND, where a SHIP of which nothing is told may lie, FAR tells nothing. */
        private boolean isTooFar(Voyage here, int meals) {
            Sea sea = galley.chart.sea;
            return sea.isWater(here.cell) && sea.fromBahia(here.cell) > meals;
        }

        private boolean isWorse(int soup, int meals) {
            return bestMeals != NONE && (soup > bestSoup || soup == bestSoup && meals >= bestMeals);
        }

        private void take(int soup, int meals) {
            bestSoup = soup;
            bestMeals = meals;
            for (int i = 0; i < PLAN_MEALS; i++) {
                best[i] = fed[i];
            }
        }
    }

    /** What is told of MEALS gone by, and what of it is struck. */
    static final class Notes {
        static final int MOST = 32;
        static final int TAKEN = 0;
        static final int WASHED = 1;
        static final int STRIKE = 2;

        final int[] kind = new int[MOST];
        final int[] meal = new int[MOST];
        final int[] value = new int[MOST];
        private final boolean[] struck = new boolean[MOST];
        int size = 0;
        /** By how many it is KNOWN, NONE: by all. */
        int limit = NONE;

        void clear() {
            size = 0;
            limit = NONE;
        }

        int inForce() {
            return limit == NONE ? size : limit;
        }

        int add(int newKind, int newMeal, int newValue) {
            if (size < 0 || size >= MOST) {
                return NONE;
            }
            kind[size] = newKind;
            meal[size] = newMeal;
            value[size] = newValue;
            size++;
            return size - 1;
        }

        /** Marks what is STRUCK; from the last one on, for a STRIKE strikes only what is ahead of it. */
        void sift() {
            for (int k = 0; k < MOST; k++) {
                struck[k] = false;
            }
            for (int k = Math.min(MOST, inForce()) - 1; k >= 0; k--) {
                int aim = value[k];
                if (kind[k] == STRIKE && !struck[k] && aim >= 0 && aim < MOST) {
                    struck[aim] = true;
                }
            }
        }

        private boolean counts(int k) {
            return k >= 0 && k < MOST && k < inForce() && !struck[k] && kind[k] != STRIKE;
        }

        /** The greatest MEAL of which something is KNOWN, NONE without. */
        int latestMeal() {
            int latest = NONE;
            for (int k = 0; k < MOST; k++) {
                latest = counts(k) ? Math.max(latest, meal[k]) : latest;
            }
            return latest;
        }

        /** The first KNOWN one of a MEAL that isn't gone by, NONE without. */
        int firstFrom(int next) {
            for (int k = 0; k < MOST; k++) {
                if (counts(k) && meal[k] >= next) {
                    return k;
                }
            }
            return NONE;
        }

        /** The first KNOWN one of a MEAL that isn't so with this COURSE and these plates, NONE without. */
        int firstFalse(int of, int course, int plates) {
            for (int k = 0; k < MOST; k++) {
                if (counts(k) && meal[k] == of && value[k] != (kind[k] == TAKEN ? course : plates)) {
                    return k;
                }
            }
            return NONE;
        }
    }

    /** Cuts a TEXT into TOKENS. */
    static final class Scanner {
        private static final String LANGUAGE = "sea land ship bahia isle wind gale storm soup seed mouth may odds from till sick loses or and not course far windy meal plates lost stock ";
        private static final int KEYS = 27;
        private static final int LETTERS = 6;
        private static final int HUGE = 1000000;

        /** Kinds of TOKENS; their values: none, letters, which word of the language, number, sign, none. */
        static final int END = 0;
        static final int WORD = 1;
        static final int KEY = 2;
        static final int NUMBER = 3;
        static final int SIGN = 4;
        static final int BAD = 5;

        /** Signs that are no knots; the others are those of Code. */
        static final int OPEN = 15;
        static final int CLOSE = 16;
        static final int LINE_END = 17;

        private final int[] keys = new int[KEYS];
        private final byte[] text;
        private int length = 0;
        private int next = 0;
        private int kind = END;
        private int value = 0;
        final int[] kinds = new int[TAPE + 1];
        final int[] values = new int[TAPE + 1];
        final int[] places = new int[TAPE + 1];
        /** How many TOKENS there are; the last one is END. */
        int size = 0;

        Scanner(byte[] tape) {
            text = tape;
            int word = 0;
            int packed = 0;
            int letters = 0;
            for (int i = 0; i < LANGUAGE.length() && word < KEYS; i++) {
                char c = LANGUAGE.charAt(i);
                if (c == ' ') {
                    keys[word] = packed << 5 * (LETTERS - letters);
                    word++;
                    packed = 0;
                    letters = 0;
                } else {
                    packed = packed << 5 | c - 'a' + 1;
                    letters++;
                }
            }
        }

        /** Finds the TOKENS of the first n bytes. */
        void scan(int n) {
            length = Math.max(0, Math.min(n, text.length));
            next = 0;
            size = 0;
            kind = BAD;
            // Each of them but END has a byte at least.
            while (size <= TAPE && kind != END) {
                while (next < length && (text[next] == ' ' || text[next] == 10)) {
                    next++;
                }
                places[size] = next;
                value = 0;
                if (next >= length) {
                    kind = END;
                } else if (isLetter(text[next])) {
                    scanWord();
                } else if (isDigit(text[next])) {
                    scanNumber();
                } else {
                    scanSign(text[next]);
                }
                kinds[size] = kind;
                values[size] = value;
                size++;
            }
        }

        private static boolean isLetter(int c) {
            return c >= 'a' && c <= 'z';
        }

        private static boolean isDigit(int c) {
            return c >= '0' && c <= '9';
        }

        private void scanWord() {
            int letters = 0;
            while (next < length && isLetter(text[next])) {
                value = letters < LETTERS ? value << 5 | text[next] - 'a' + 1 : value;
                letters++;
                next++;
            }
            if (letters > LETTERS) {
                kind = BAD;
                return;
            }
            value <<= 5 * (LETTERS - letters);
            kind = WORD;
            for (int k = 0; k < KEYS && kind == WORD; k++) {
                if (keys[k] == value) {
                    kind = KEY;
                    value = k;
                }
            }
        }

        private void scanNumber() {
            kind = NUMBER;
            while (next < length && isDigit(text[next])) {
                value = Math.min(HUGE, value * 10 + text[next] - '0');
                next++;
            }
        }

        private void scanSign(int c) {
            kind = SIGN;
            next++;
            switch (c) {
                case ';':
                    value = LINE_END;
                    break;
                case '(':
                    value = OPEN;
                    break;
                case ')':
                    value = CLOSE;
                    break;
                case '+':
                    value = Code.PLUS;
                    break;
                case '-':
                    value = Code.MINUS;
                    break;
                case '*':
                    value = Code.TIMES;
                    break;
                case '/':
                    value = Code.OVER;
                    break;
                case '=':
                    value = Code.SAME;
                    break;
                case '<':
                    value = follows('=') ? Code.AT_MOST : follows('>') ? Code.OTHER : Code.LESS;
                    break;
                case '>':
                    value = follows('=') ? Code.AT_LEAST : Code.MORE;
                    break;
                default:
                    kind = BAD;
                    break;
            }
        }

        /** Takes the next byte into the sign if it is c. */
        private boolean follows(int c) {
            boolean does = next < length && text[next] == c;
            next += does ? 1 : 0;
            return does;
        }
    }

    /** Reads a TEXT into a chart, up to its first FAULT. */
    static final class Reader {
        /** The words of the language, as Scanner numbers them. */
        private static final int SEA = 0;
        private static final int LAND = 1;
        private static final int SHIP = 2;
        private static final int BAHIA = 3;
        private static final int ISLE = 4;
        private static final int WIND = 5;
        private static final int GALE = 6;
        private static final int STORM = 7;
        private static final int SOUP = 8;
        private static final int SEED = 9;
        private static final int MOUTH = 10;
        private static final int MAY = 11;
        private static final int ODDS = 12;
        private static final int FROM = 13;
        private static final int SICK = 15;
        private static final int LOSES = 16;
        private static final int OR = 17;
        private static final int NOT = 19;
        private static final int COURSE = 20;

        /** How closely each sign of Code, and then OPEN, holds what stands beside it. */
        private static final int[] RANK = {0, 0, 1, 2, 3, 4, 4, 4, 4, 4, 4, 5, 5, 6, 6, 0};
        private static final int COMPARES = 4;

        private static final int NO_TOKEN = 1;
        private static final int TOO_MUCH = 2;
        private static final int TOLD = 3;
        private static final int SEA_BEHIND = 4;
        private static final int ON_LAND = 5;

        private static final int LANDS = 20;
        private static final int OPEN_MOST = 8;

        private final Scanner scanner;
        private Chart chart;
        int lines = 0;
        int faultKind = 0;
        int faultPlace = NONE;

        /** Which TOKEN is next, and what it is: key and sign are NONE if it is no such one. */
        private int at = 0;
        private int kind = Scanner.END;
        private int place = 0;
        private int value = 0;
        private int key = NONE;
        private int sign = NONE;

        /** The number, or CELL, that was read last, and its place. */
        private int got = 0;
        private int gotPlace = 0;
        /** Which words of LINES there were, as bits. */
        private int told = 0;

        /** Signs of an E that wait for what stands behind them. */
        private final int[] pending = new int[Code.KNOTS + OPEN_MOST];
        private int waiting = 0;
        private int open = 0;
        private int knots = 0;
        private boolean wantsPart = true;

        Reader(byte[] tape, Chart into) {
            scanner = new Scanner(tape);
            chart = into;
        }

        /** Whether the first n bytes are a TEXT; then the chart is as it tells. */
        boolean read(int n, Chart into) {
            chart = into;
            chart.clear();
            scanner.scan(n);
            lines = 0;
            told = 0;
            knots = 0;
            faultKind = 0;
            faultPlace = NONE;
            at = NONE;
            advance();
            for (int k = 0; k <= TAPE && kind != Scanner.END; k++) {
                if (!readLine()) {
                    return false;
                }
                lines++;
            }
            chart.close();
            return true;
        }

        private void advance() {
            at = Math.max(0, Math.min(at + 1, scanner.size - 1));
            if (at > TAPE) {
                return;
            }
            kind = scanner.kinds[at];
            place = scanner.places[at];
            value = scanner.values[at];
            key = kind == Scanner.KEY ? value : NONE;
            sign = kind == Scanner.SIGN ? value : NONE;
            if (key >= OR && key <= NOT) {
                sign = key - OR + Code.OR;
            }
        }

        private boolean wrong(int fault, int where) {
            faultKind = fault;
            faultPlace = where;
            return false;
        }

        // ---- lines ----

        private boolean readLine() {
            int word = key;
            int at = place;
            advance();
            boolean right;
            switch (word) {
                case SEA:
                    right = readSea(at);
                    break;
                case LAND:
                    right = readLand(at);
                    break;
                case SHIP:
                case BAHIA:
                    right = readShip(word, at);
                    break;
                case ISLE:
                    right = readIsle(at);
                    break;
                case WIND:
                    right = readWind(at);
                    break;
                case GALE:
                    right = readGale(at);
                    break;
                case STORM:
                    right = readStorm(at);
                    break;
                case SOUP:
                case SEED:
                    right = readStore(word, at);
                    break;
                case MOUTH:
                case MAY:
                    right = readMouth(word, at);
                    break;
                default:
                    return wrong(NO_TOKEN, at);
            }
            return right && endLine();
        }

        private boolean endLine() {
            if (sign != Scanner.LINE_END) {
                return wrong(NO_TOKEN, place);
            }
            advance();
            return true;
        }

        private boolean isTold(int word) {
            return (told >> word & 1) == 1;
        }

        private boolean tellOnce(int word, int at) {
            if (isTold(word)) {
                return wrong(TOLD, at);
            }
            told |= 1 << word;
            return true;
        }

        private boolean readNumber(int least, int most) {
            if (kind != Scanner.NUMBER) {
                return wrong(NO_TOKEN, place);
            }
            if (value < least || value > most) {
                return wrong(TOO_MUCH, place);
            }
            got = value;
            gotPlace = place;
            advance();
            return true;
        }

        private boolean readCell() {
            if (!readNumber(0, chart.sea.wide - 1)) {
                return false;
            }
            int x = got;
            if (!readNumber(0, chart.sea.high - 1)) {
                return false;
            }
            got = got * chart.sea.wide + x;
            return true;
        }

        private boolean readCellOfWater() {
            if (!readCell()) {
                return false;
            }
            return !chart.sea.isLand(got) || wrong(ON_LAND, gotPlace);
        }

        private boolean readSea(int at) {
            if (!tellOnce(SEA, at)) {
                return false;
            }
            if (isTold(LAND) || isTold(SHIP) || isTold(BAHIA) || isTold(ISLE)) {
                return wrong(SEA_BEHIND, at);
            }
            if (!readNumber(1, 8)) {
                return false;
            }
            chart.sea.wide = got;
            if (!readNumber(1, 8)) {
                return false;
            }
            chart.sea.high = got;
            return true;
        }

        private boolean readLand(int at) {
            Sea sea = chart.sea;
            if (sea.lands >= LANDS) {
                return wrong(TOO_MUCH, at);
            }
            if (!readCell()) {
                return false;
            }
            if (sea.isLand(got)) {
                return wrong(TOLD, gotPlace);
            }
            if (isTold(SHIP) && sea.start == got || isTold(BAHIA) && sea.bahia == got || sea.isIsle(got)) {
                return wrong(ON_LAND, gotPlace);
            }
            told |= 1 << LAND;
            sea.land |= 1L << got;
            sea.lands++;
            return true;
        }

        private boolean readShip(int word, int at) {
            if (!tellOnce(word, at) || !readCellOfWater()) {
                return false;
            }
            if (word == SHIP) {
                chart.sea.start = got;
            } else {
                chart.sea.bahia = got;
            }
            return true;
        }

        private boolean readIsle(int at) {
            Sea sea = chart.sea;
            int isle = sea.isles;
            if (isle < 0 || isle >= ISLES) {
                return wrong(TOO_MUCH, at);
            }
            if (kind != Scanner.WORD) {
                return wrong(NO_TOKEN, place);
            }
            if (sea.isleNamed(value) != NONE) {
                return wrong(TOLD, place);
            }
            sea.isleName[isle] = value;
            advance();
            if (!readCellOfWater()) {
                return false;
            }
            sea.isleCell[isle] = got;
            if (!readNumber(0, 9)) {
                return false;
            }
            sea.isleReach[isle] = got;
            if (!readNumber(1, 9)) {
                return false;
            }
            sea.isleGoats[isle] = got;
            told |= 1 << ISLE;
            sea.isles++;
            return true;
        }

        private boolean readWind(int at) {
            if (!tellOnce(WIND, at)) {
                return false;
            }
            for (int k = 0; k <= Chart.WINDS && (k == 0 || kind == Scanner.NUMBER); k++) {
                if (k == Chart.WINDS) {
                    return wrong(TOO_MUCH, place);
                }
                if (!readNumber(0, COURSES - 1)) {
                    return false;
                }
                chart.wind[k] = got;
                chart.winds = k + 1;
            }
            return true;
        }

        private boolean readGale(int at) {
            int gale = chart.gales;
            if (gale < 0 || gale >= Chart.GALES) {
                return wrong(TOO_MUCH, at);
            }
            if (!readNumber(0, MEALS - 1)) {
                return false;
            }
            chart.galeMeal[gale] = got;
            if (!readNumber(0, COURSES - 1)) {
                return false;
            }
            chart.galeCourse[gale] = got;
            if (!readNumber(1, 99)) {
                return false;
            }
            chart.galePlates[gale] = got;
            chart.gales++;
            return true;
        }

        private boolean readStorm(int at) {
            if (!tellOnce(STORM, at) || !readNumber(0, 99)) {
                return false;
            }
            chart.stormOdds = got;
            if (!readNumber(1, 99)) {
                return false;
            }
            chart.stormPlates = got;
            return true;
        }

        private boolean readStore(int word, int at) {
            if (!tellOnce(word, at) || !readNumber(0, word == SOUP ? 9999 : 99999)) {
                return false;
            }
            if (word == SOUP) {
                chart.soup = got;
            } else {
                chart.seed = got;
            }
            return true;
        }

        // ---- mouths ----

        private boolean readMouth(int word, int at) {
            boolean isMay = word == MAY;
            if (isMay ? chart.mays >= MAYS : chart.mouths >= MOUTHS) {
                return wrong(TOO_MUCH, at);
            }
            int slot = isMay ? MOUTHS + chart.mays : chart.mouths;
            if (kind != Scanner.WORD || slot < 0 || slot >= CREW) {
                return wrong(NO_TOKEN, place);
            }
            if (isCrewName(value)) {
                return wrong(TOLD, place);
            }
            Mouth mouth = chart.crew[slot];
            mouth.begin(value);
            advance();
            if (!readNumber(0, MOST_PLATES)) {
                return false;
            }
            mouth.plates = got;
            if (isMay && !readOdds(mouth) || !readRest(mouth) || !readExpression(mouth)) {
                return false;
            }
            chart.mays += isMay ? 1 : 0;
            chart.mouths += isMay ? 0 : 1;
            return true;
        }

        private boolean isCrewName(int letters) {
            for (int i = 0; i < CREW; i++) {
                boolean taken = i < MOUTHS ? i < chart.mouths : i - MOUTHS < chart.mays;
                if (taken && chart.crew[i].name == letters) {
                    return true;
                }
            }
            return false;
        }

        private boolean readOdds(Mouth mouth) {
            if (key != ODDS) {
                return wrong(NO_TOKEN, place);
            }
            advance();
            if (!readNumber(1, 99)) {
                return false;
            }
            mouth.odds = got;
            return true;
        }

        private boolean readRest(Mouth mouth) {
            int had = 0;
            // Each of the four words comes once: a fifth one was had.
            for (int k = 0; k < 5 && key >= FROM && key <= LOSES; k++) {
                if ((had >> key & 1) == 1) {
                    return wrong(TOLD, place);
                }
                had |= 1 << key;
                int word = key;
                advance();
                boolean right = word == SICK ? readSick(mouth)
                        : word == LOSES ? readLoses(mouth) : readStay(mouth, word);
                if (!right) {
                    return false;
                }
            }
            return true;
        }

        private boolean readStay(Mouth mouth, int word) {
            if (word == FROM) {
                if (!readNumber(0, mouth.till)) {
                    return false;
                }
                mouth.from = got;
            } else {
                if (!readNumber(mouth.from, MEALS - 1)) {
                    return false;
                }
                mouth.till = got;
            }
            return true;
        }

        private boolean readSick(Mouth mouth) {
            if (!readNumber(0, MEALS - 1)) {
                return false;
            }
            mouth.sickFrom = got;
            if (!readNumber(mouth.sickFrom, MEALS - 1)) {
                return false;
            }
            mouth.sickTo = got;
            return true;
        }

        private boolean readLoses(Mouth mouth) {
            if (!readNumber(1, 99)) {
                return false;
            }
            mouth.loses = got;
            return true;
        }

        // ---- E ----

        /** Each step takes one TOKEN, and knows whether a part of E or a sign must come. */
        private boolean readExpression(Mouth mouth) {
            mouth.codeFrom = chart.code.size;
            waiting = 0;
            open = 0;
            wantsPart = true;
            for (int k = 0; k <= TAPE && (wantsPart || goesOn()); k++) {
                if (wantsPart ? !takePart() : !takeSign()) {
                    return false;
                }
                advance();
            }
            if (open > 0) {
                return wrong(NO_TOKEN, place);
            }
            release(1);
            mouth.codeTo = chart.code.size;
            return true;
        }

        private boolean goesOn() {
            return sign != NONE && sign != Code.NOT && sign != Scanner.OPEN && sign != Scanner.LINE_END;
        }

        private boolean takePart() {
            if (kind == Scanner.NUMBER && value > 9999) {
                return wrong(TOO_MUCH, place);
            }
            if (kind == Scanner.NUMBER || key >= COURSE) {
                wantsPart = false;
                return countKnot() && addLeaf();
            }
            if (sign == Scanner.OPEN) {
                if (open >= OPEN_MOST) {
                    return wrong(TOO_MUCH, place);
                }
                open++;
                return defer(Scanner.OPEN);
            }
            // Only what and, or join may begin with not: the sides of a comparison and of a sum may not.
            if (sign != Code.NOT || rankOnTop() >= COMPARES) {
                return wrong(NO_TOKEN, place);
            }
            return countKnot() && defer(Code.NOT);
        }

        private boolean addLeaf() {
            if (kind == Scanner.NUMBER) {
                chart.code.add(Code.NUMBER, value);
            } else {
                chart.code.add(Code.NAME, key - COURSE);
            }
            return true;
        }

        private boolean takeSign() {
            if (sign == Scanner.CLOSE) {
                if (open < 1) {
                    return wrong(NO_TOKEN, place);
                }
                release(1);
                waiting -= waiting > 0 ? 1 : 0;
                open--;
                return true;
            }
            int rank = rankOf(sign);
            // A comparison does not end another one: it can't stand behind it.
            release(rank == COMPARES ? rank + 1 : rank);
            if (rank == COMPARES && rankOnTop() == COMPARES) {
                return wrong(NO_TOKEN, place);
            }
            wantsPart = true;
            return countKnot() && defer(sign);
        }

        private boolean countKnot() {
            if (knots >= Code.KNOTS) {
                return wrong(TOO_MUCH, place);
            }
            knots++;
            return true;
        }

        private static int rankOf(int what) {
            return what >= 0 && what < RANK.length ? RANK[what] : 0;
        }

        private int rankOnTop() {
            return waiting > 0 && waiting <= pending.length ? rankOf(pending[waiting - 1]) : 0;
        }

        private boolean defer(int what) {
            if (waiting < 0 || waiting >= pending.length) {
                return wrong(TOO_MUCH, place);
            }
            pending[waiting] = what;
            waiting++;
            return true;
        }

        /** Lets out the signs that hold at least as closely as rank. */
        private void release(int rank) {
            while (waiting > 0 && waiting <= pending.length && rankOf(pending[waiting - 1]) >= rank) {
                waiting--;
                chart.code.add(pending[waiting], 0);
            }
        }
    }
}
