import java.util.Arrays;

/**
 * Promises 10 and 11, and what the terms say of THE ROW and of each kind, sentence by sentence: the
 * last that is taken, the first that is refused.
 */
public final class MakeEdgesTest {
    private static final int UNKNOWN = Checks.UNKNOWN, OUTSIDE = Checks.OUTSIDE, WRONG = Checks.WRONG,
            ROOM = Checks.ROOM;
    private static final int ORIGIN = Starts.ORIGIN, EAST = Starts.EAST, NORTH = Starts.NORTH, CORNER = Starts.CORNER,
            FAR_POINT = Starts.FAR_POINT, AXIS = Starts.AXIS, FAR_LINE = Starts.FAR_LINE, SLOPE = Starts.SLOPE,
            CIRCLE = Starts.CIRCLE;
    /** For each kind a row that makes a MAP, by 2 and 1, and the MAP. */
    private static final int[][] GIVEN = {{CORNER}, {CORNER}, {SLOPE}, {CORNER}, {SLOPE}, {ORIGIN, EAST, EAST, CORNER},
        {ORIGIN, EAST, NORTH, EAST, CORNER, NORTH}, {ORIGIN, EAST, NORTH, CORNER, ORIGIN, EAST, NORTH, FAR_POINT},
        {AXIS, SLOPE, FAR_LINE}};
    private static final int[][] MADE = {{1, 0, 1, 0, 1, 1, 0, 0, 1}, {3, -4, 6, 4, 3, -2, 0, 0, 5},
        {0, 1, -3, 1, 0, -3, 0, 0, -1}, {2, 0, -1, 0, 2, -1, 0, 0, 1}, {0, 1, -1, 1, 0, -5, 0, 0, -1},
        {0, 1, -1, -1, 0, 0, 0, 0, -1}, {0, 1, -1, -1, -1, 0, 0, 0, -1}, {1, 0, 0, 0, 2, 0, -2, -1, 3},
        {0, 1, 0, 1, 1, -3, 0, 0, 1}};
    private static final int[] STAYS = {1, 0, 0, 0, 1, 0, 0, 0, 1};
    private static final Checks CHECKS = new Checks("MakeEdgesTest");
    private static final Refused REFUSED = new Refused(CHECKS);

    public static void main(String[] args) {
        givenUpTo8();
        givenNinth();
        givenNone();
        allKinds();
        kindsBeyond();
        factorsUpTo1000();
        factorsBeyond1000();
        notJustThese();
        otherSorts();
        farOnes();
        farOnesThatAreTaken();
        turnsByNothing();
        stretchesByZero();
        glidesByZero();
        likenessesOfOne();
        affineOnOneLine();
        projectiveOnOneLine();
        anyOfNoDeterminant();
        shiftsAlwaysHaveRoom();
        turnsUpTo500();
        mirrorsUpTo500();
        stretchesUpTo500();
        glidesUpTo500();
        likenessesUpTo500();
        affineUpTo500();
        projectiveUpTo500();
        projectiveByLargeWeights();
        anyUpTo500();
        fortiethMap();
        fortyMaps();
        theFirstThatFits();
        CHECKS.end();
    }

    private static void due(String call, long got, long want) {
        CHECKS.due(call, got, want);
    }

    private static TransformRows some() {
        TransformRows x = new TransformRows();
        Starts.some(x);
        return x;
    }

    private static void giveAll(TransformRows x, int... given) {
        for (int object : given) {
            x.give(object);
        }
    }

    /** The MAP is made, is the next one, and THE ROW is empty then. */
    private static void taken(String what, TransformRows x, int map, int... table) {
        due(what + ", the next number", map, x.count(1) - 1);
        CHECKS.mapDue(what, x, map, table);
        due(what + ": THE ROW is empty", x.count(2), 0);
    }

    // ---- Promise 10

    /** "An OBJECT comes behind THE ROW: how many it has." Up to 8, of any sort, FAR ones too, again too. */
    private static void givenUpTo8() {
        TransformRows x = some();
        int[] any = {CIRCLE, FAR_POINT, FAR_LINE, ORIGIN, ORIGIN, AXIS, CIRCLE, CORNER};
        for (int k = 0; k < 8; k++) {
            due("how many", x.give(any[k]), k + 1);
            due("how many", x.count(2), k + 1);
        }
        TransformRows y = some();
        giveAll(y, GIVEN[7]);
        taken("from 8, in order", y, y.make(7, 0, 0), MADE[7]);
    }

    /** "ROOM: there are 8." */
    private static void givenNinth() {
        Refused.Part eight = x -> {
            Starts.some(x);
            giveAll(x, GIVEN[7]);
        };
        for (int object : new int[] {ORIGIN, CORNER, FAR_LINE, CIRCLE}) {
            REFUSED.due("the ninth", eight, x -> x.give(object), ROOM);
        }
        REFUSED.due("the ninth, UNKNOWN comes first", eight, x -> x.give(Starts.OBJECTS), UNKNOWN);
        REFUSED.due("the ninth, UNKNOWN comes first", eight, x -> x.give(-1), UNKNOWN);
    }

    /** "UNKNOWN." */
    private static void givenNone() {
        for (int k : Checks.NO_NUMBERS) {
            REFUSED.due("give none", Starts::given, x -> x.give(k), UNKNOWN);
        }
        REFUSED.due("give the next one", Starts::given, x -> x.give(Starts.OBJECTS), UNKNOWN);
        REFUSED.due("of 60, the next one", Starts::sixtyObjects, x -> x.give(60), UNKNOWN);
        TransformRows x = new TransformRows();
        Starts.sixtyObjects(x);
        due("of 60, the last one", x.give(59), 2);
    }

    // ---- Promise 11

    /** "A MAP of a kind 0 .. 8 from THE ROW, which is empty then .. : its number." */
    private static void allKinds() {
        TransformRows x = some();
        for (int kind = 0; kind <= 8; kind++) {
            taken("kind " + kind, x, Checks.made(x, kind, 2, 1, GIVEN[kind]), MADE[kind]);
            due("the next number", x.count(1), Starts.MAPS + kind + 1);
        }
        for (int kind = 0; kind <= 8; kind++) {
            due("the like one", Checks.made(x, kind, 2, 1, GIVEN[kind]), Starts.MAPS + kind);
            due("THE ROW is empty", x.count(2), 0);
        }
    }

    /** "OUTSIDE: kind": then THE ROW stays. */
    private static void kindsBeyond() {
        for (int kind : new int[] {-1, 9, Integer.MIN_VALUE, Integer.MAX_VALUE}) {
            for (int[] given : GIVEN) {
                Refused.Part start = x -> {
                    Starts.some(x);
                    giveAll(x, given);
                };
                REFUSED.due("kind " + kind, start, x -> x.make(kind, 2, 1), OUTSIDE);
            }
        }
    }

    /** "by u and v (-1000 .. 1000)": the last ones. */
    private static void factorsUpTo1000() {
        int[][] ends = {{1000, 1000}, {1000, -1000}, {-1000, 1000}, {-1000, -1000}};
        int[][] turned = {{0, 1, -2, -1, 0, 0, 0, 0, -1}, {0, 1, 0, -1, 0, 2, 0, 0, 1}};
        int[][] stretched = {STAYS, {1, 0, -2, 0, 1, -2, 0, 0, -1}};
        int[][] glided = {{0, 1, -2, 1, 0, -4, 0, 0, -1}, {0, 1, -4, 1, 0, -2, 0, 0, -1}};
        for (int[] uv : ends) {
            int which = uv[0] == uv[1] ? 0 : 1;
            for (int kind = 0; kind <= 8; kind++) {
                TransformRows x = some();
                int[] table = kind == 1 ? turned[which] : kind == 3 ? stretched[which] : kind == 4 ? glided[which]
                        : MADE[kind];
                taken("by " + Arrays.toString(uv), x, Checks.made(x, kind, uv[0], uv[1], GIVEN[kind]), table);
            }
        }
    }

    /** "OUTSIDE: .. u, v.": the first ones that are refused, for kinds that need them or not. */
    private static void factorsBeyond1000() {
        int[] beyond = {1001, -1001, Integer.MAX_VALUE, -Integer.MAX_VALUE, Integer.MIN_VALUE};
        for (int kind = 0; kind <= 8; kind++) {
            int of = kind;
            Refused.Part start = x -> {
                Starts.some(x);
                giveAll(x, GIVEN[of]);
            };
            for (int size : beyond) {
                REFUSED.due("u " + size, start, x -> x.make(of, size, 1), OUTSIDE);
                REFUSED.due("v " + size, start, x -> x.make(of, 2, size), OUTSIDE);
                REFUSED.due("both " + size, start, x -> x.make(of, size, size), OUTSIDE);
            }
        }
    }

    /** "from just these in THE ROW, in order (else it is WRONG ..)": none, one less, one more. */
    private static void notJustThese() {
        for (int kind = 0; kind <= 8; kind++) {
            int[] given = GIVEN[kind];
            REFUSED.makeDue("none " + kind, Starts::some, WRONG, kind, 2, 1);
            REFUSED.makeDue("one less " + kind, Starts::some, WRONG, kind, 2, 1,
                    Arrays.copyOf(given, given.length - 1));
            REFUSED.makeDue("without the first " + kind, Starts::some, WRONG, kind, 2, 1,
                    Arrays.copyOfRange(given, 1, given.length));
            for (int more : new int[] {CORNER, SLOPE, CIRCLE}) {
                if (given.length < 8) {
                    int[] longer = Arrays.copyOf(given, given.length + 1);
                    longer[given.length] = more;
                    REFUSED.makeDue("one more " + kind, Starts::some, WRONG, kind, 2, 1, longer);
                }
            }
            for (int other = 0; other <= 8; other++) {
                if (GIVEN[other].length != given.length) {
                    REFUSED.makeDue("as for " + other, Starts::some, WRONG, kind, 2, 1, GIVEN[other]);
                }
            }
        }
    }

    private static void eachPlaceWrong(String what, int kind, int other) {
        for (int place = 0; place < GIVEN[kind].length; place++) {
            int[] given = GIVEN[kind].clone();
            given[place] = other;
            REFUSED.makeDue(what + " " + place + " of " + kind, Starts::some, WRONG, kind, 2, 1, given);
        }
    }

    /** "from just these": another sort at any place. */
    private static void otherSorts() {
        for (int kind = 0; kind <= 8; kind++) {
            boolean ofLines = kind == 2 || kind == 4 || kind == 8;
            eachPlaceWrong("a CONIC", kind, CIRCLE);
            eachPlaceWrong("another sort", kind, ofLines ? CORNER : SLOPE);
        }
    }

    /** "a POINT (not FAR)", "a LINE (not FAR)", "four POINTS .. (none FAR ..", "six POINTS (none FAR": */
    private static void farOnes() {
        for (int kind : new int[] {0, 1, 3, 5, 6}) {
            eachPlaceWrong("FAR", kind, FAR_POINT);
        }
        for (int kind : new int[] {2, 4}) {
            eachPlaceWrong("FAR", kind, FAR_LINE);
        }
        // As near to it as a LEAST row can be.
        TransformRows x = some();
        int[] tables = {x.line(1, 0, 250), x.line(0, 1, -250)};
        taken("MIRROR", x, Checks.made(x, 2, 0, 0, tables[0]), 1, 0, 500, 0, -1, 0, 0, 0, -1);
        taken("MIRROR", x, Checks.made(x, 2, 0, 0, tables[1]), 1, 0, 0, 0, -1, 500, 0, 0, 1);
        taken("SHIFT", x, Checks.made(x, 0, 0, 0, x.point(500, -500, -1)), 1, 0, -500, 0, 1, 500, 0, 0, 1);
        taken("SHIFT", x, Checks.made(x, 0, 0, 0, x.point(499, 0, 500)), 500, 0, 499, 0, 500, 0, 0, 0, 500);
    }

    private static int[] both(int[] first, int[] last) {
        int[] all = Arrays.copyOf(first, first.length + last.length);
        System.arraycopy(last, 0, all, first.length, last.length);
        return all;
    }

    /** PROJECTIVE and ANY do not say "not FAR". */
    private static void farOnesThatAreTaken() {
        int[] four = {ORIGIN, EAST, NORTH, CORNER};
        for (int place = 0; place < 4; place++) {
            TransformRows x = some();
            int[] other = four.clone();
            other[place] = FAR_POINT;
            int map = Checks.made(x, 7, 0, 0, both(other, four));
            int back = Checks.made(x, 7, 0, 0, both(four, other));
            for (int i = 0; i < 4; i++) {
                due("from a FAR one", x.image(map, other[i]), four[i]);
                due("to a FAR one", x.image(back, four[i]), other[i]);
            }
            due("each turns the other back", x.back(map), back);
        }
        TransformRows x = some();
        taken("ANY", x, Checks.made(x, 8, 0, 0, FAR_LINE, AXIS, SLOPE), 0, 0, 1, 0, 1, 0, 1, 1, -3);
        taken("ANY", x, Checks.made(x, 8, 0, 0, SLOPE, FAR_LINE, AXIS), 1, 1, -3, 0, 0, 1, 0, 1, 0);
    }

    /** 1 TURN: ".. (not both 0)" */
    private static void turnsByNothing() {
        REFUSED.makeDue("both 0", Starts::some, WRONG, 1, 0, 0, CORNER);
        TransformRows x = some();
        for (int one : new int[] {1, -1, 1000, -1000}) {
            int stays = Checks.made(x, 1, one, 0, CORNER);
            CHECKS.mapDue("v is 0", x, stays, STAYS);
            int half = Checks.made(x, 1, 0, one, CORNER);
            CHECKS.mapDue("u is 0", x, half, 1, 0, -2, 0, 1, -2, 0, 0, -1);
        }
        due("these two alone", x.count(1), Starts.MAPS + 2);
    }

    /** 3 STRETCH: "by u / v (neither is 0)" */
    private static void stretchesByZero() {
        for (int one : new int[] {0, 1, -1, 1000}) {
            REFUSED.makeDue("u is 0", Starts::some, WRONG, 3, 0, one, CORNER);
            REFUSED.makeDue("v is 0", Starts::some, WRONG, 3, one, 0, CORNER);
        }
        TransformRows x = some();
        taken("by 1 / 1", x, Checks.made(x, 3, 1, 1, CORNER), STAYS);
        taken("by -1 / 1", x, Checks.made(x, 3, -1, 1, CORNER), 1, 0, -2, 0, 1, -2, 0, 0, -1);
        taken("by 1 / -2", x, Checks.made(x, 3, 1, -2, CORNER), 1, 0, -3, 0, 1, -3, 0, 0, -2);
        due("by -1 / -1", Checks.made(x, 3, -1, -1, CORNER), Starts.MAPS);
    }

    /** 4 GLIDE: "a shift by u / v times (-b, a) (v is not 0)" */
    private static void glidesByZero() {
        for (int one : new int[] {0, 1, -1, 1000}) {
            REFUSED.makeDue("v is 0", Starts::some, WRONG, 4, one, 0, SLOPE);
        }
        TransformRows x = some();
        taken("u is 0: MIRROR", x, Checks.made(x, 4, 0, 1, SLOPE), 0, 1, -3, 1, 0, -3, 0, 0, -1);
        due("u is 0: MIRROR", Checks.made(x, 4, 0, -1000, SLOPE), Starts.MAPS);
        due("MIRROR, whatever u and v are", Checks.made(x, 2, 0, 0, SLOPE), Starts.MAPS);
        due("MIRROR, whatever u and v are", Checks.made(x, 2, 1000, 0, SLOPE), Starts.MAPS);
        taken("by 1 / 1", x, Checks.made(x, 4, 1, 1, SLOPE), 0, 1, -2, 1, 0, -4, 0, 0, -1);
        taken("by -1 / 1", x, Checks.made(x, 4, -1, 1, SLOPE), 0, 1, -4, 1, 0, -2, 0, 0, -1);
    }

    /** 5 LIKENESS: "p not q, r not s" */
    private static void likenessesOfOne() {
        REFUSED.makeDue("p is q", Starts::some, WRONG, 5, 0, 0, EAST, EAST, ORIGIN, NORTH);
        REFUSED.makeDue("r is s", Starts::some, WRONG, 5, 0, 0, ORIGIN, NORTH, EAST, EAST);
        REFUSED.makeDue("both", Starts::some, WRONG, 5, 0, 0, EAST, EAST, EAST, EAST);
        int[][] others = {{0, 1, 0, 1}, {0, 1, 1, 0}, {0, 1, 1, 3}, {0, 1, 2, 0}, {0, 1, 3, 1}};
        for (int[] p : others) {
            TransformRows x = some();
            int map = Checks.made(x, 5, 0, 0, p);
            CHECKS.holds("the same across is taken", map >= 0);
            due("p to r", x.image(map, p[0]), p[2]);
            due("q to s", x.image(map, p[1]), p[3]);
        }
        // Next to each other: 499 / 500 and 498 / 499, upright or across.
        TransformRows x = some();
        int p = x.point(499, 1, 500);
        int q = x.point(498, 1, 499);
        int r = x.point(1, 499, 500);
        int s = x.point(1, 498, 499);
        taken("near ones", x, Checks.made(x, 5, 0, 0, p, q, p, q), STAYS);
        due("near ones", Checks.made(x, 5, 0, 0, r, s, r, s), Starts.MAPS);
    }

    /** POINTS 9 .. 12: the first three on one LINE, the last one off it by a determinant of 1. */
    private static void nearlyOnOneLine(TransformRows x) {
        Starts.some(x);
        x.point(499, 500, 500);
        x.point(0, 500, 499);
        x.point(499, 0, 1);
        x.point(-500, 499, 497);
    }

    /** 6 AFFINE: "neither the first three nor the last three on one LINE" */
    private static void affineOnOneLine() {
        int[][] flat = {{ORIGIN, EAST, 9}, {9, ORIGIN, EAST}, {ORIGIN, ORIGIN, NORTH}, {ORIGIN, NORTH, ORIGIN},
            {NORTH, ORIGIN, ORIGIN}, {EAST, EAST, EAST}};
        Refused.Part start = x -> {
            Starts.some(x);
            x.point(-500, 0, 499);
        };
        for (int[] p : flat) {
            REFUSED.makeDue("the first", start, WRONG, 6, 0, 0, p[0], p[1], p[2], ORIGIN, EAST, NORTH);
            REFUSED.makeDue("the last", start, WRONG, 6, 0, 0, ORIGIN, EAST, NORTH, p[0], p[1], p[2]);
            REFUSED.makeDue("both", start, WRONG, 6, 0, 0, p[0], p[1], p[2], p[0], p[1], p[2]);
        }
        REFUSED.makeDue("large, first", MakeEdgesTest::nearlyOnOneLine, WRONG, 6, 0, 0, 9, 10, 11, ORIGIN, EAST, NORTH);
        REFUSED.makeDue("large, last", MakeEdgesTest::nearlyOnOneLine, WRONG, 6, 0, 0, ORIGIN, EAST, NORTH, 9, 10, 11);
        TransformRows x = new TransformRows();
        nearlyOnOneLine(x);
        taken("large, nearly", x, Checks.made(x, 6, 0, 0, 9, 10, 12, 9, 10, 12), STAYS);
        taken("the same across", x, Checks.made(x, 6, 0, 0, ORIGIN, EAST, NORTH, ORIGIN, NORTH, EAST),
                0, 1, 0, 1, 0, 0, 0, 0, 1);
    }

    /** 7 PROJECTIVE: "no three of the first four, nor of the last four, on one LINE" */
    private static void projectiveOnOneLine() {
        // OBJECT 9 is the FAR POINT of AXIS, 10 stands at -500 / 499 on it.
        Refused.Part start = x -> {
            Starts.some(x);
            x.point(1, 0, 0);
            x.point(-500, 0, 499);
        };
        int[][] flat = {{NORTH, ORIGIN, EAST, 10}, {ORIGIN, NORTH, EAST, 10}, {ORIGIN, EAST, NORTH, 10},
            {ORIGIN, EAST, 10, NORTH}, {ORIGIN, EAST, NORTH, 9}, {9, ORIGIN, NORTH, EAST}, {9, 10, EAST, ORIGIN},
            {ORIGIN, ORIGIN, EAST, NORTH}, {ORIGIN, EAST, NORTH, NORTH}, {ORIGIN, EAST, ORIGIN, NORTH},
            {NORTH, EAST, ORIGIN, NORTH}, {NORTH, EAST, ORIGIN, EAST}, {CORNER, NORTH, NORTH, EAST}};
        for (int[] p : flat) {
            String what = Arrays.toString(p);
            REFUSED.makeDue(what, start, WRONG, 7, 0, 0, p[0], p[1], p[2], p[3], ORIGIN, EAST, NORTH, CORNER);
            REFUSED.makeDue(what, start, WRONG, 7, 0, 0, ORIGIN, EAST, NORTH, CORNER, p[0], p[1], p[2], p[3]);
            REFUSED.makeDue(what, start, WRONG, 7, 0, 0, p[0], p[1], p[2], p[3], p[0], p[1], p[2], p[3]);
        }
        int[][] large = {{9, 10, 11, ORIGIN}, {9, 10, ORIGIN, 11}, {9, ORIGIN, 10, 11}, {ORIGIN, 9, 10, 11}};
        for (int[] p : large) {
            REFUSED.makeDue("large", MakeEdgesTest::nearlyOnOneLine, WRONG, 7, 0, 0,
                    p[0], p[1], p[2], p[3], ORIGIN, EAST, NORTH, CORNER);
            REFUSED.makeDue("large", MakeEdgesTest::nearlyOnOneLine, WRONG, 7, 0, 0,
                    ORIGIN, EAST, NORTH, CORNER, p[0], p[1], p[2], p[3]);
        }
        TransformRows x = new TransformRows();
        nearlyOnOneLine(x);
        taken("large, nearly", x, Checks.made(x, 7, 0, 0, 9, 10, 12, ORIGIN, 9, 10, 12, ORIGIN), STAYS);
        due("large, nearly", Checks.made(x, 7, 0, 0, ORIGIN, 12, 9, 10, ORIGIN, 12, 9, 10), Starts.MAPS);
    }

    /** 8 ANY: "(its determinant is not 0)" */
    private static void anyOfNoDeterminant() {
        Refused.Part start = x -> {
            Starts.some(x);
            x.line(499, 500, 500);
            x.line(0, 500, 499);
            x.line(499, 0, 1);
            x.line(500, -499, -497);
        };
        REFUSED.makeDue("one twice", start, WRONG, 8, 0, 0, AXIS, SLOPE, AXIS);
        REFUSED.makeDue("one thrice", start, WRONG, 8, 0, 0, AXIS, AXIS, AXIS);
        REFUSED.makeDue("large", start, WRONG, 8, 0, 0, 9, 10, 11);
        REFUSED.makeDue("large", start, WRONG, 8, 0, 0, 11, 9, 10);
        TransformRows x = new TransformRows();
        start.on(x);
        taken("1", x, Checks.made(x, 8, 0, 0, 9, 10, 12), 499, 500, 500, 0, 500, 499, 500, -499, -497);
        taken("-1", x, Checks.made(x, 8, 0, 0, 10, 9, 12), 0, 500, 499, 499, 500, 500, 500, -499, -497);
    }

    // ---- "Each of a LEAST row is 500 at most in size (without sign); else there is NO ROOM for it"

    private static void refusedRoom(String what, int kind, int u, int v, int[]... numbers) {
        boolean ofLines = kind == 2 || kind == 4;
        Refused.Part start = x -> {
            Starts.some(x);
            enterAll(x, ofLines, numbers);
        };
        int[] given = new int[numbers.length];
        TransformRows x = new TransformRows();
        Starts.some(x);
        for (int i = 0; i < given.length; i++) {
            given[i] = enterOne(x, ofLines, numbers[i]);
        }
        REFUSED.makeDue(what, start, ROOM, kind, u, v, given);
    }

    private static void takenOf(String what, int kind, int u, int v, int[] table, int[]... numbers) {
        boolean ofLines = kind == 2 || kind == 4;
        TransformRows x = some();
        int[] given = new int[numbers.length];
        for (int i = 0; i < given.length; i++) {
            given[i] = enterOne(x, ofLines, numbers[i]);
        }
        taken(what, x, Checks.made(x, kind, u, v, given), table);
    }

    private static int enterOne(TransformRows x, boolean ofLines, int[] n) {
        return ofLines ? x.line(n[0], n[1], n[2]) : x.point(n[0], n[1], n[2]);
    }

    private static void enterAll(TransformRows x, boolean ofLines, int[][] numbers) {
        for (int[] n : numbers) {
            enterOne(x, ofLines, n);
        }
    }

    private static int[] p(int... numbers) {
        return numbers;
    }

    /** A SHIFT has no NUMBERS but its POINT's. */
    private static void shiftsAlwaysHaveRoom() {
        takenOf("500", 0, 0, 0, p(1, 0, 500, 0, 1, -500, 0, 0, 1), p(500, -500, 1));
        takenOf("500 below", 0, 0, 0, p(500, 0, 499, 0, 500, 1, 0, 0, 500), p(499, 1, 500));
        takenOf("500 below", 0, 0, 0, p(500, 0, -499, 0, 500, -1, 0, 0, 500), p(499, 1, -500));
    }

    /** A quarter around (x, y) shifts by (x + y, y - x). */
    private static void turnsUpTo500() {
        takenOf("500", 1, 1, 1, p(0, 1, -500, -1, 0, 0, 0, 0, -1), p(250, 250, 1));
        takenOf("-500", 1, 1, 1, p(0, 1, 500, -1, 0, 0, 0, 0, -1), p(-250, -250, 1));
        takenOf("500, y", 1, 1, 1, p(0, 1, 0, -1, 0, -500, 0, 0, -1), p(-250, 250, 1));
        refusedRoom("501", 1, 1, 1, p(250, 251, 1));
        refusedRoom("-501", 1, 1, 1, p(-250, -251, 1));
        refusedRoom("501, y", 1, 1, 1, p(-250, 251, 1));
        refusedRoom("-501, y", 1, 1, 1, p(251, -250, 1));
        // 100 times 5 below, then 101 times 5.
        takenOf("500 below", 1, 3, 1, p(400, -300, 1, 300, 400, -3, 0, 0, 500), p(1, 0, 100));
        refusedRoom("505 below", 1, 3, 1, p(1, 0, 101));
        refusedRoom("far too large", 1, 1000, 999, p(500, 499, 1));
    }

    private static void mirrorsUpTo500() {
        takenOf("500", 2, 0, 0, p(3, -4, -250, -4, -3, -500, 0, 0, 5), p(1, 2, 125));
        takenOf("-500", 2, 0, 0, p(3, -4, 250, -4, -3, 500, 0, 0, 5), p(1, 2, -125));
        takenOf("-500 and 500", 2, 0, 0, p(1, 0, 500, 0, -1, 0, 0, 0, -1), p(1, 0, 250));
        // 3 times 167.
        refusedRoom("501", 2, 0, 0, p(1, 3, -167));
        refusedRoom("-501", 2, 0, 0, p(1, 3, 167));
        refusedRoom("502", 2, 0, 0, p(1, 0, -251));
        refusedRoom("far too large", 2, 0, 0, p(500, 499, 500));
    }

    private static void stretchesUpTo500() {
        takenOf("500", 3, 500, 1, p(500, 0, 0, 0, 500, 0, 0, 0, 1), p(0, 0, 1));
        takenOf("-500", 3, -500, 1, p(500, 0, 0, 0, 500, 0, 0, 0, -1), p(0, 0, 1));
        takenOf("1 / 500", 3, 1, 500, p(1, 0, 0, 0, 1, 0, 0, 0, 500), p(0, 0, 1));
        takenOf("1000 / 2", 3, 1000, 2, p(500, 0, 0, 0, 500, 0, 0, 0, 1), p(0, 0, 1));
        takenOf("500 aside", 3, -499, 1, p(499, 0, -500, 0, 499, 0, 0, 0, -1), p(1, 0, 1));
        refusedRoom("501", 3, 501, 1, p(0, 0, 1));
        refusedRoom("-501", 3, -501, 1, p(0, 0, 1));
        refusedRoom("1 / 501", 3, 1, 501, p(0, 0, 1));
        refusedRoom("1 / -501", 3, 1, -501, p(0, 0, 1));
        refusedRoom("501 aside", 3, -500, 1, p(1, 0, 1));
        refusedRoom("501 aside, y", 3, -500, 1, p(0, -1, 1));
        refusedRoom("far too large", 3, 1000, -999, p(500, 499, 498));
    }

    private static void glidesUpTo500() {
        takenOf("-500", 4, 500, 1, p(1, 0, -500, 0, -1, 0, 0, 0, 1), p(0, 1, 0));
        takenOf("500", 4, 500, -1, p(1, 0, 500, 0, -1, 0, 0, 0, 1), p(0, 1, 0));
        takenOf("500, y", 4, 500, 1, p(1, 0, 0, 0, -1, -500, 0, 0, -1), p(1, 0, 0));
        takenOf("500 below", 4, 1, 500, p(500, 0, -1, 0, -500, 0, 0, 0, 500), p(0, 1, 0));
        takenOf("1000 / 2", 4, 1000, 2, p(1, 0, -500, 0, -1, 0, 0, 0, 1), p(0, 1, 0));
        refusedRoom("-501", 4, 501, 1, p(0, 1, 0));
        refusedRoom("501", 4, -501, 1, p(0, 1, 0));
        refusedRoom("501, y", 4, 501, 1, p(1, 0, 0));
        refusedRoom("501 below", 4, 1, 501, p(0, 1, 0));
        refusedRoom("far too large", 4, 1000, 999, p(500, 499, 498));
    }

    private static void likenessesUpTo500() {
        takenOf("500", 5, 0, 0, p(500, 0, 0, 0, 500, 0, 0, 0, 1), p(0, 0, 1), p(1, 0, 1), p(0, 0, 1), p(500, 0, 1));
        takenOf("turned, 500", 5, 0, 0, p(0, 500, 0, -500, 0, 0, 0, 0, -1), p(0, 0, 1), p(1, 0, 1), p(0, 0, 1),
                p(0, 500, 1));
        takenOf("500 below", 5, 0, 0, p(1, 0, 0, 0, 1, 0, 0, 0, 500), p(0, 0, 1), p(500, 0, 1), p(0, 0, 1),
                p(1, 0, 1));
        // Times (2 + i), from (3, 4) to (5, 6), from (4, 4) to (7, 7).
        takenOf("turned and aside", 5, 0, 0, p(2, -1, 3, 1, 2, -5, 0, 0, 1), p(3, 4, 1), p(4, 4, 1), p(5, 6, 1),
                p(7, 7, 1));
        takenOf("500 aside", 5, 0, 0, p(1, 0, 500, 0, 1, 0, 0, 0, 1), p(0, 0, 1), p(-1, 0, 1), p(500, 0, 1),
                p(499, 0, 1));
        refusedRoom("501", 5, 0, 0, p(0, 0, 1), p(1, 0, 1), p(-1, 0, 1), p(500, 0, 1));
        refusedRoom("-501", 5, 0, 0, p(0, 0, 1), p(1, 0, 1), p(1, 0, 1), p(-500, 0, 1));
        refusedRoom("turned, 501", 5, 0, 0, p(0, 0, 1), p(1, 0, 1), p(0, -1, 1), p(0, 500, 1));
        refusedRoom("501 below", 5, 0, 0, p(-1, 0, 1), p(500, 0, 1), p(0, 0, 1), p(1, 0, 1));
        refusedRoom("501 aside", 5, 0, 0, p(-1, 0, 1), p(-2, 0, 1), p(500, 0, 1), p(499, 0, 1));
        refusedRoom("far too large", 5, 0, 0, p(500, 499, 497), p(-499, 498, 500), p(497, -500, 499), p(-500, -499, 1));
    }

    private static void affineUpTo500() {
        int[] o = {0, 0, 1};
        int[] e = {1, 0, 1};
        int[] n = {0, 1, 1};
        takenOf("500", 6, 0, 0, p(500, 0, 0, 0, 1, 0, 0, 0, 1), o, e, n, o, p(500, 0, 1), n);
        takenOf("-500", 6, 0, 0, p(1, -500, 0, 0, 1, 0, 0, 0, 1), o, e, n, o, e, p(-500, 1, 1));
        takenOf("500 below", 6, 0, 0, p(1, 0, 0, 0, 500, 0, 0, 0, 500), o, p(500, 0, 1), n, o, e, n);
        refusedRoom("501", 6, 0, 0, o, e, n, p(-1, 0, 1), p(500, 0, 1), p(-1, 1, 1));
        refusedRoom("-501", 6, 0, 0, o, e, n, p(1, 0, 1), p(-500, 0, 1), n);
        refusedRoom("501 below", 6, 0, 0, p(-1, 0, 1), p(500, 0, 1), p(-1, 1, 1), o, e, n);
        refusedRoom("far too large", 6, 0, 0, p(500, 499, 498), p(-499, 497, 500), p(3, -500, 499),
                p(-500, 498, 499), p(499, -1, 500), p(497, 500, -499));
    }

    private static void projectiveUpTo500() {
        int[] o = {0, 0, 1};
        int[] e = {1, 0, 1};
        int[] n = {0, 1, 1};
        int[] c = {1, 1, 1};
        takenOf("500", 7, 0, 0, p(500, 0, 0, 0, 1, 0, 0, 0, 1), o, e, n, c, o, p(500, 0, 1), n, p(500, 1, 1));
        takenOf("500 below", 7, 0, 0, p(1, 0, 0, 0, 500, 0, 0, 0, 500), o, p(500, 0, 1), n, p(500, 1, 1), o, e, n, c);
        // (x, y, w) to (x, y, w + 500 x), and to (x, y, w + 501 x).
        takenOf("500 in the last row", 7, 0, 0, p(1, 0, 0, 0, 1, 0, 500, 0, 1), p(1, 0, -1), p(0, 1, 0), o,
                p(1, 1, -2), p(1, 0, 499), p(0, 1, 0), o, p(1, 1, 498));
        refusedRoom("501 in the last row", 7, 0, 0, p(1, 0, -1), p(0, 1, 0), o, p(1, 1, -2),
                p(1, 0, 500), p(0, 1, 0), o, p(1, 1, 499));
        refusedRoom("501", 7, 0, 0, o, e, n, c, p(-1, 0, 1), p(500, 0, 1), p(-1, 1, 1), p(500, 1, 1));
        refusedRoom("-501", 7, 0, 0, o, e, n, c, p(1, 0, 1), p(-500, 0, 1), p(1, 1, 1), p(-500, 1, 1));
        refusedRoom("501 below", 7, 0, 0, p(-1, 0, 1), p(500, 0, 1), p(-1, 1, 1), p(500, 1, 1), o, e, n, c);
        refusedRoom("far too large", 7, 0, 0, p(500, 499, 498), p(-499, 497, 500), p(3, -500, 499), p(500, -497, 1),
                p(-500, 498, 499), p(499, -1, 500), p(497, 500, -499), p(2, 499, 500));
    }

    /**
     * A POINT's row may go to 749000 times a row of 1 and 0, though no NUMBER of the table is above 500;
     * with 998500 times there is NO ROOM, whatever was made before.
     */
    private static void projectiveByLargeWeights() {
        int[][] from = {{500, 499, 500}, {1, 0, 0}, {0, 1, 0}, {0, 0, 1}};
        int[][] to = {{1, 1, 0}, {500, 499, -249}, {1, 1, 1}, {499, 500, -250}};
        for (int turn = 0; turn < 4; turn++) {
            int[][] eight = new int[8][];
            for (int i = 0; i < 4; i++) {
                eight[i] = from[(i + turn) % 4];
                eight[4 + i] = to[(i + turn) % 4];
            }
            takenOf("by 749000", 7, 0, 0, p(500, 500, 499, 499, 500, 500, -249, 500, -250), eight);
        }
        int[][] units = {{1, 0, 0}, {0, 1, 0}, {0, 0, 1}};
        int[][] far = {{500, -500, 1}, {499, -500, -1}, {500, 499, 0}};
        for (int turn = 0; turn < 3; turn++) {
            int[][] eight = {units[0], units[1], units[2], {1, 1, 1},
                far[turn], far[(turn + 1) % 3], far[(turn + 2) % 3], {499, 500, 0}};
            refusedRoom("by 998500", 7, 0, 0, eight);
            TransformRows x = new TransformRows();
            int[] given = new int[8];
            for (int i = 0; i < 8; i++) {
                given[i] = enterOne(x, false, eight[i]);
            }
            int[] same = {given[0], given[1], given[2], given[3], given[0], given[1], given[2], given[3]};
            due("all stays", Checks.made(x, 7, 0, 0, same), 0);
            due("by 998500, after another one", Checks.made(x, 7, 0, 0, given), ROOM);
        }
    }

    /** ANY has no NUMBERS but its LINES': there is always room. */
    private static void anyUpTo500() {
        TransformRows x = some();
        int[] table = {500, -500, 499, 500, 499, 500, 499, 500, -500};
        int a = x.line(table[0], table[1], table[2]);
        int b = x.line(table[3], table[4], table[5]);
        int c = x.line(table[6], table[7], table[8]);
        taken("500", x, Checks.made(x, 8, 0, 0, a, b, c), table);
    }

    // ---- "MAPS, 40 at most, each row once"

    /** The last one, of each kind. */
    private static void fortiethMap() {
        for (int kind = 0; kind <= 8; kind++) {
            TransformRows x = new TransformRows();
            Starts.maps(x, 39);
            int map = Checks.made(x, kind, 2, 1, GIVEN[kind]);
            due("the 40th, of kind " + kind, map, 39);
            taken("the 40th, of kind " + kind, x, map, MADE[kind]);
            due("the like one", Checks.made(x, kind, 2, 1, GIVEN[kind]), 39);
        }
    }

    /** "(also when it is WRONG, or ROOM)": the first that is refused, of each kind; one that is there is not. */
    private static void fortyMaps() {
        for (int kind = 0; kind <= 8; kind++) {
            REFUSED.makeDue("the 41st, of kind " + kind, Starts::fortyMaps, ROOM, kind, 2, 1, GIVEN[kind]);
        }
        REFUSED.makeDue("the like one", Starts::fortyMaps, Starts.SHIFT, 0, 0, 0, EAST);
        REFUSED.makeDue("the like one", Starts::fortyMaps, Starts.QUARTER, 1, 7, 7, ORIGIN);
        REFUSED.makeDue("the like one", Starts::fortyMaps, Starts.MIRROR, 2, 0, 0, AXIS);
    }

    /** "Answers below 0: UNKNOWN .., OUTSIDE .., WRONG, ROOM .., the first that fits" */
    private static void theFirstThatFits() {
        REFUSED.due("OUTSIDE before WRONG", Starts::given, x -> x.make(7, 1001, 0), OUTSIDE);
        REFUSED.due("OUTSIDE before WRONG", Starts::given, x -> x.make(1, 0, -1001), OUTSIDE);
        REFUSED.due("OUTSIDE before WRONG", Starts::some, x -> x.make(9, 0, 0), OUTSIDE);
        REFUSED.due("OUTSIDE before ROOM", Starts::fortyMapsGiven, x -> x.make(9, 2, 1), OUTSIDE);
        REFUSED.due("OUTSIDE before ROOM", Starts::fortyMapsGiven, x -> x.make(3, 1001, 1), OUTSIDE);
        REFUSED.makeDue("WRONG before ROOM", Starts::fortyMaps, WRONG, 0, 0, 0);
        REFUSED.makeDue("WRONG before ROOM", Starts::fortyMaps, WRONG, 1, 0, 0, CORNER);
        REFUSED.makeDue("WRONG before ROOM", Starts::fortyMaps, WRONG, 3, 0, 1, CORNER);
        REFUSED.makeDue("WRONG before ROOM", Starts::fortyMaps, WRONG, 8, 0, 0, AXIS, AXIS, SLOPE);
        // WRONG, though its table would have NO ROOM if it were none.
        REFUSED.makeDue("WRONG before NO ROOM", Starts::some, WRONG, 3, 501, 1, FAR_POINT);
    }
}
