import java.util.Arrays;

/** Promises 1 to 9, sentence by sentence: the last that is taken, the first that is refused. */
public final class ObjectsEdgesTest {
    private static final int UNKNOWN = Checks.UNKNOWN, OUTSIDE = Checks.OUTSIDE, WRONG = Checks.WRONG,
            ROOM = Checks.ROOM;
    private static final long NONE = Checks.NONE;
    private static final int POINT = 0, LINE = 1, CONIC = 2;
    private static final Checks CHECKS = new Checks("ObjectsEdgesTest");
    private static final Refused REFUSED = new Refused(CHECKS);

    public static void main(String[] args) {
        nothingIsThere();
        firstOnes();
        lastOf512Calls();
        for (int sort = POINT; sort <= CONIC; sort++) {
            largestNumbers(sort);
            beyondTheBounds(sort);
            allAreZero(sort);
            likeOnes(sort);
            onlyOneIsNotZero(sort);
            sixtieth(sort);
            sixtyOfThem(sort);
        }
        sortsAreApart();
        numbersOfARow();
        numbersBeyondTheRow();
        numbersOfNone();
        joinsOfUnlikeSorts();
        joinsOfOne();
        joinsUpTo500();
        joinsBeyond500();
        sixtiethByJoin();
        sixtyAndJoin();
        onWhatLiesThere();
        onByTheLeast();
        onOfOtherSorts();
        shapesOfOthers();
        shapesNextToEachOther();
        shapesOfTheLargest();
        crossAtItsEnds();
        crossBelowIsAboveZero();
        crossOfTheLargest();
        crossOfOtherSorts();
        crossSides();
        crossOffTheLine();
        crossOfTheSame();
        CHECKS.end();
    }

    private static void due(String call, long got, long want) {
        CHECKS.due(call, got, want);
    }

    private static int enter(TransformRows x, int sort, int... n) {
        switch (sort) {
            case POINT:
                return x.point(n[0], n[1], n[2]);
            case LINE:
                return x.line(n[0], n[1], n[2]);
            default:
                return x.conic(n[0], n[1], n[2], n[3], n[4], n[5]);
        }
    }

    private static int width(int sort) {
        return sort == CONIC ? 6 : 3;
    }

    private static String name(int sort) {
        return new String[] {"POINT", "LINE", "CONIC"}[sort];
    }

    /** A row of the sort's width: all of it so, but for one. */
    private static int[] row(int sort, int all, int place, int one) {
        int[] numbers = new int[width(sort)];
        Arrays.fill(numbers, all);
        numbers[place] = one;
        return numbers;
    }

    // ---- Promise 1

    /** "No OBJECTS, no MAPS, nothing in THE ROW." */
    private static void nothingIsThere() {
        Refused.Part start = Starts::nothing;
        REFUSED.due("new: number", start, x -> x.number(0, 6), UNKNOWN);
        REFUSED.due("new: join", start, x -> x.join(0, 0), UNKNOWN);
        REFUSED.due("new: on", start, x -> x.on(0, 0), UNKNOWN);
        REFUSED.due("new: shape", start, x -> x.shape(0), UNKNOWN);
        REFUSED.due("new: cross", start, x -> x.cross(0, 0, 0, 0, 0), NONE);
        REFUSED.due("new: give", start, x -> x.give(0), UNKNOWN);
        REFUSED.due("new: count(0)", start, x -> x.count(0), 0);
        REFUSED.due("new: count(1)", start, x -> x.count(1), 0);
        REFUSED.due("new: count(2)", start, x -> x.count(2), 0);
        REFUSED.due("new: entry", start, x -> x.entry(0, 0), UNKNOWN);
        REFUSED.due("new: then", start, x -> x.then(0, 0), UNKNOWN);
        REFUSED.due("new: back", start, x -> x.back(0), UNKNOWN);
        REFUSED.due("new: image", start, x -> x.image(0, 0), UNKNOWN);
        REFUSED.due("new: kind", start, x -> x.kind(0), UNKNOWN);
        REFUSED.due("new: own", start, x -> x.own(0, 0), NONE);
        REFUSED.due("new: fixed", start, x -> x.fixed(0, 0), UNKNOWN);
        REFUSED.due("new: order", start, x -> x.order(0, 1), UNKNOWN);
        REFUSED.due("new: seed", start, x -> x.seed(0), UNKNOWN);
        REFUSED.due("new: among", start, x -> x.among(0), UNKNOWN);
        for (int kind = 0; kind <= 8; kind++) {
            REFUSED.makeDue("new: make " + kind, start, WRONG, kind, 1, 1);
        }
    }

    /** "numbered from 0" */
    private static void firstOnes() {
        TransformRows x = new TransformRows();
        due("the first OBJECT", x.conic(0, 0, 0, 0, 0, 1), 0);
        due("the second OBJECT", x.point(0, 0, 1), 1);
        due("the first in THE ROW", x.give(1), 1);
        due("the first MAP", x.make(0, 0, 0), 0);
        due("the first SEED", x.seed(0), 1);
        due("OBJECT 2", x.number(2, 6), UNKNOWN);
        due("MAP 1", x.kind(1), UNKNOWN);
    }

    /** "An object is used for at most 512 calls after it has been made" */
    private static void lastOf512Calls() {
        TransformRows x = new TransformRows();
        due("the first call", x.point(7, 8, 9), 0);
        for (int call = 2; call <= 511; call++) {
            due("call " + call, x.point(0, call % 50, 1), 1 + (call - 2) % 50);
        }
        due("call 512", x.number(0, 2), 1009);
    }

    // ---- Promises 2 to 4

    /** "A POINT (each -500 .. 500): its number", "A LINE, likewise", "A CONIC, likewise": the last ones. */
    private static void largestNumbers(int sort) {
        for (int place = 0; place < width(sort); place++) {
            for (int size : new int[] {500, -500}) {
                TransformRows x = new TransformRows();
                int[] numbers = row(sort, 1, place, size);
                String what = name(sort) + " " + Arrays.toString(numbers);
                due(what, enter(x, sort, numbers), 0);
                int[] least = numbers.clone();
                for (int i = 0; i < least.length && place == 0 && size < 0; i++) {
                    least[i] = -least[i];
                }
                CHECKS.objectDue(what, x, 0, sort, least);
            }
        }
    }

    /** "(each -500 .. 500)": the first ones that are refused. */
    private static void beyondTheBounds(int sort) {
        for (int place = 0; place < width(sort); place++) {
            for (int size : Checks.BEYOND_500) {
                for (int others : new int[] {0, 1}) {
                    int[] numbers = row(sort, others, place, size);
                    String what = name(sort) + " " + Arrays.toString(numbers);
                    REFUSED.due(what, Starts::given, x -> enter(x, sort, numbers), OUTSIDE);
                }
                int[] numbers = row(sort, 1, place, size);
                REFUSED.due("60 OBJECTS, " + size, Starts::sixtyObjects, x -> enter(x, sort, numbers), OUTSIDE);
            }
            // Though LEAST it would be in bounds.
            int[] even = row(sort, 2, place, 502);
            REFUSED.due(name(sort) + " with 502", Starts::given, x -> enter(x, sort, even), OUTSIDE);
        }
    }

    /** "WRONG: all are 0." */
    private static void allAreZero(int sort) {
        int[] zeros = new int[width(sort)];
        REFUSED.due("all 0, " + name(sort), Starts::nothing, x -> enter(x, sort, zeros), WRONG);
        REFUSED.due("all 0, " + name(sort), Starts::given, x -> enter(x, sort, zeros), WRONG);
        REFUSED.due("all 0, 60 OBJECTS", Starts::sixtyObjects, x -> enter(x, sort, zeros), WRONG);
    }

    /** "(that of the like one, if it is there)" */
    private static void likeOnes(int sort) {
        TransformRows x = new TransformRows();
        int[] numbers = row(sort, 6, 1, -10);
        numbers[2] = 15;
        due("a " + name(sort), enter(x, sort, numbers), 0);
        CHECKS.objectDue("no two have a divisor of all", x, 0, sort, numbers);
        for (int factor : new int[] {-1, 2, -3, 33, -33}) {
            int[] more = numbers.clone();
            for (int i = 0; i < more.length; i++) {
                more[i] *= factor;
            }
            due("the like one, " + factor, enter(x, sort, more), 0);
        }
        for (int place = 0; place < width(sort); place++) {
            int[] other = numbers.clone();
            other[place]++;
            due("another one at " + place, enter(x, sort, other), 1 + place);
        }
    }

    /** "LEAST they are divided by their greatest common divisor, and the first .. not 0 is above 0" */
    private static void onlyOneIsNotZero(int sort) {
        for (int place = 0; place < width(sort); place++) {
            TransformRows x = new TransformRows();
            due("one not 0, at " + place, enter(x, sort, row(sort, 0, place, -500)), 0);
            CHECKS.objectDue("one not 0", x, 0, sort, row(sort, 0, place, 1));
            due("the like one", enter(x, sort, row(sort, 0, place, 499)), 0);
        }
    }

    /** "OBJECTS, 60 at most": the last one. */
    private static void sixtieth(int sort) {
        TransformRows x = new TransformRows();
        Starts.objects(x, 59);
        due("the 60th, a " + name(sort), enter(x, sort, row(sort, 1, 1, 500)), 59);
        CHECKS.objectDue("the 60th", x, 59, sort, row(sort, 1, 1, 500));
        due("60 OBJECTS", x.count(0), 60);
        due("the like one", enter(x, sort, row(sort, -1, 1, -500)), 59);
    }

    /** "OBJECTS, 60 at most": the first that is refused; one that is there is not. */
    private static void sixtyOfThem(int sort) {
        int[] numbers = row(sort, 1, 1, 500);
        REFUSED.due("the 61st, a " + name(sort), Starts::sixtyObjects, x -> enter(x, sort, numbers), ROOM);
        int[][] there = {{2, 2, 2}, {-1, -1, 3}, {4, 0, 4, 0, 0, -100}};
        int[] at = {Starts.CORNER, Starts.SLOPE, Starts.CIRCLE};
        REFUSED.due("the like one", Starts::sixtyObjects, x -> enter(x, sort, there[sort]), at[sort]);
    }

    /** "a POINT (x, y, w), a LINE (a, b, c), a CONIC (..)": sorts with the same NUMBERS are not like. */
    private static void sortsAreApart() {
        TransformRows x = new TransformRows();
        due("a CONIC", x.conic(1, 2, 3, 0, 0, 0), 0);
        due("a LINE", x.line(1, 2, 3), 1);
        due("a POINT", x.point(1, 2, 3), 2);
        due("the CONIC", x.conic(-1, -2, -3, 0, 0, 0), 0);
        due("the LINE", x.line(-1, -2, -3), 1);
        due("the POINT", x.point(-1, -2, -3), 2);
        due("another CONIC", x.conic(1, 2, 3, 0, 0, 1), 3);
    }

    // ---- Promise 5

    /** "NUMBER i of its LEAST row (0 .. 2, of a CONIC 0 .. 5) and 1000; its sort (i = 6)": all there are. */
    private static void numbersOfARow() {
        for (int sort = POINT; sort <= CONIC; sort++) {
            for (int place = 0; place < width(sort); place++) {
                for (int size : new int[] {500, -500}) {
                    TransformRows x = new TransformRows();
                    enter(x, sort, row(sort, 0, place, 1));
                    int[] numbers = row(sort, place == 0 && size < 0 ? -1 : 1, place, size);
                    int object = enter(x, sort, numbers);
                    int due = place == 0 ? 500 : size;
                    due(name(sort) + " " + size + " at " + place, x.number(object, place), 1000 + due);
                    due("its sort", x.number(object, 6), sort);
                }
            }
        }
    }

    /** "(0 .. 2, of a CONIC 0 .. 5)": the first ones that are refused. */
    private static void numbersBeyondTheRow() {
        int[] at = {Starts.CORNER, Starts.SLOPE, Starts.CIRCLE};
        for (int sort = POINT; sort <= CONIC; sort++) {
            int object = at[sort];
            for (int i : new int[] {-1, width(sort) == 3 ? 3 : 7, width(sort) == 3 ? 4 : 8, width(sort) == 3 ? 5 : 9,
                7, -1000, Integer.MIN_VALUE, Integer.MAX_VALUE}) {
                REFUSED.due(name(sort) + ", NUMBER " + i, Starts::given, x -> x.number(object, i), OUTSIDE);
            }
        }
    }

    /** "UNKNOWN (.. an OBJECT that there is not ..)", before "OUTSIDE (a number out of its bounds)" */
    private static void numbersOfNone() {
        for (int i : new int[] {0, 6, -1, 7}) {
            for (int k : Checks.NO_NUMBERS) {
                REFUSED.due("of none, " + k, Starts::given, x -> x.number(k, i), UNKNOWN);
            }
            REFUSED.due("the next one", Starts::given, x -> x.number(Starts.OBJECTS, i), UNKNOWN);
            REFUSED.due("of 60, the next one", Starts::sixtyObjects, x -> x.number(60, i), UNKNOWN);
        }
        TransformRows x = new TransformRows();
        Starts.sixtyObjects(x);
        due("of 60, the last one", x.number(59, 0), 1059);
    }

    // ---- Promise 6

    /** "UNKNOWN: unlike sorts, CONICS" */
    private static void joinsOfUnlikeSorts() {
        int[] at = {Starts.CORNER, Starts.SLOPE, Starts.CIRCLE};
        for (int one = POINT; one <= CONIC; one++) {
            for (int other = POINT; other <= CONIC; other++) {
                int p = at[one];
                int q = at[other];
                if (one != other || one == CONIC) {
                    REFUSED.due("join", Starts::given, x -> x.join(p, q), UNKNOWN);
                    REFUSED.due("join, 60 OBJECTS", Starts::sixtyObjects, x -> x.join(p, q), UNKNOWN);
                }
            }
            for (int k : new int[] {Starts.OBJECTS, Checks.NO_NUMBERS[0], -1, 60, Checks.NO_NUMBERS[4]}) {
                int p = at[one];
                REFUSED.due("join with none", Starts::given, x -> x.join(p, k), UNKNOWN);
                REFUSED.due("none with one", Starts::given, x -> x.join(k, p), UNKNOWN);
                REFUSED.due("none twice", Starts::given, x -> x.join(k, k), UNKNOWN);
            }
        }
        REFUSED.due("two CONICS", x -> {
            Starts.given(x);
            x.conic(1, 0, 1, 0, 0, -1);
        }, x -> x.join(Starts.CIRCLE, Starts.OBJECTS), UNKNOWN);
    }

    /** "WRONG: they are one." */
    private static void joinsOfOne() {
        for (int k : new int[] {Starts.ORIGIN, Starts.FAR_POINT, Starts.AXIS, Starts.FAR_LINE}) {
            REFUSED.due("one with itself", Starts::given, x -> x.join(k, k), WRONG);
            REFUSED.due("one with itself, 60 OBJECTS", Starts::sixtyObjects, x -> x.join(k, k), WRONG);
        }
    }

    private static void pair(TransformRows x, int sort, int[] one, int[] other) {
        Starts.given(x);
        enter(x, sort, one);
        enter(x, sort, other);
    }

    /** "Each of a LEAST row is 500 at most in size": the largest that join makes. */
    private static void joinsUpTo500() {
        int[][][] pairs = {{{4, 1, 0}, {0, 1, 125}, {125, -500, 4}}, {{1, 4, 0}, {1, 0, 125}, {500, -125, -4}},
            {{1, 0, 4}, {0, 125, 1}, {500, 1, -125}}, {{500, 0, 1}, {0, 500, 1}, {1, 1, -500}}};
        for (int[][] p : pairs) {
            for (int sort = POINT; sort <= LINE; sort++) {
                TransformRows x = new TransformRows();
                pair(x, sort, p[0], p[1]);
                due("joined, the next number", x.join(9, 10), 11);
                CHECKS.objectDue("joined", x, 11, 1 - sort, p[2]);
                due("the like one", x.join(10, 9), 11);
                due("one more OBJECT", x.count(0), 12);
            }
        }
    }

    /** "else there is NO ROOM for it": 3 times 167 is 501. */
    private static void joinsBeyond500() {
        int[][][] pairs = {{{3, 1, 0}, {0, 1, 167}}, {{1, 3, 0}, {1, 0, 167}}, {{1, 0, 3}, {0, 167, 1}},
            {{1, 0, 3}, {0, -167, 1}}, {{500, 499, 1}, {-499, 500, 500}}};
        for (int[][] p : pairs) {
            for (int sort = POINT; sort <= LINE; sort++) {
                int of = sort;
                REFUSED.due("NO ROOM", x -> pair(x, of, p[0], p[1]), x -> x.join(9, 10), ROOM);
                REFUSED.due("NO ROOM", x -> pair(x, of, p[0], p[1]), x -> x.join(10, 9), ROOM);
            }
        }
    }

    /** "OBJECTS, 60 at most": the last one, by join. */
    private static void sixtiethByJoin() {
        TransformRows x = new TransformRows();
        Starts.objects(x, 59);
        due("the 60th", x.join(Starts.ORIGIN, Starts.CORNER), 59);
        CHECKS.objectDue("the 60th", x, 59, LINE, 1, -1, 0);
        due("the like one", x.join(Starts.CORNER, Starts.ORIGIN), 59);
    }

    /** "OBJECTS, 60 at most", "(that of the like one, if it is there)" */
    private static void sixtyAndJoin() {
        REFUSED.due("the 61st", Starts::sixtyObjects, x -> x.join(Starts.ORIGIN, Starts.CORNER), ROOM);
        REFUSED.due("a 61st POINT", Starts::sixtyObjects, x -> x.join(Starts.SLOPE, Starts.AXIS), ROOM);
        REFUSED.due("the like one", Starts::sixtyObjects, x -> x.join(Starts.ORIGIN, Starts.EAST), Starts.AXIS);
    }

    // ---- Promise 7

    /** "Whether a POINT lies on a LINE, a CONIC: 1, 0." With the largest NUMBERS, and one off. */
    private static void onWhatLiesThere() {
        TransformRows x = new TransformRows();
        int p = x.point(500, 499, -500);
        due("on, 500", x.on(p, x.line(500, 0, 500)), 1);
        due("on, 500 and 499", x.on(p, x.line(499, -500, 0)), 1);
        due("off by one", x.on(p, x.line(499, -499, 1)), 0);
        due("on the CONIC x w = - x x", x.on(p, x.conic(1, 0, 0, 1, 0, 0)), 1);
        due("on the CONIC x x = w w", x.on(p, x.conic(1, 0, 0, 0, 0, -1)), 1);
        due("off the CONIC x x = y y", x.on(p, x.conic(1, 0, -1, 0, 0, 0)), 0);
        int first = x.conic(1, 0, 0, 1, 0, 0);
        due("not on another CONIC", x.on(p, x.conic(1, 0, 0, -1, 0, 0)), 0);
        due("still on the first one", x.on(p, first), 1);
        // Each of the six times 125 millions would be beyond an int.
        int q = x.point(500, 500, 499);
        due("off the largest CONIC", x.on(q, x.conic(500, 499, 500, 499, 500, 499)), 0);
        REFUSED.due("a question changes nothing", Starts::given, y -> y.on(Starts.EAST, Starts.AXIS), 1);
        REFUSED.due("a question changes nothing", Starts::given, y -> y.on(Starts.NORTH, Starts.CIRCLE), 0);
    }

    /** Each NUMBER of the CONIC counts, and each of the LINE. */
    private static void onByTheLeast() {
        int[] form = {4, 6, 9, 10, 15, 25};
        for (int i = 0; i < 6; i++) {
            TransformRows x = new TransformRows();
            int p = x.point(2, 3, 5);
            int[] on = new int[6];
            int other = i == 5 ? 0 : 5;
            on[i] = form[other];
            on[other] = -form[i];
            due("on, by " + i, x.on(p, x.conic(on[0], on[1], on[2], on[3], on[4], on[5])), 1);
            on[i]++;
            due("off, by " + i, x.on(p, x.conic(on[0], on[1], on[2], on[3], on[4], on[5])), 0);
        }
        TransformRows x = new TransformRows();
        int p = x.point(2, 3, 5);
        due("on a LINE", x.on(p, x.line(1, 1, -1)), 1);
        due("off by a", x.on(p, x.line(2, 1, -1)), 0);
        due("off by b", x.on(p, x.line(1, 2, -1)), 0);
        due("off by c", x.on(p, x.line(1, 1, 1)), 0);
    }

    /** "UNKNOWN: other sorts." */
    private static void onOfOtherSorts() {
        int[] at = {Starts.CORNER, Starts.SLOPE, Starts.CIRCLE};
        for (int one = POINT; one <= CONIC; one++) {
            int p = at[one];
            for (int other = POINT; other <= CONIC; other++) {
                int object = at[other];
                if (one != POINT || other == POINT) {
                    REFUSED.due("on", Starts::given, x -> x.on(p, object), UNKNOWN);
                }
            }
            for (int k : new int[] {Starts.OBJECTS, Checks.NO_NUMBERS[0], -1, 60, Checks.NO_NUMBERS[4]}) {
                REFUSED.due("none on", Starts::given, x -> x.on(k, p), UNKNOWN);
                REFUSED.due("on none", Starts::given, x -> x.on(p, k), UNKNOWN);
            }
        }
    }

    // ---- Promise 8

    /** "UNKNOWN." */
    private static void shapesOfOthers() {
        for (int k : Checks.NO_NUMBERS) {
            REFUSED.due("of none", Starts::given, x -> x.shape(k), UNKNOWN);
        }
        for (int k : new int[] {Starts.OBJECTS, Starts.CORNER, Starts.SLOPE}) {
            REFUSED.due("of no CONIC", Starts::given, x -> x.shape(k), UNKNOWN);
        }
        REFUSED.due("a question changes nothing", Starts::given, x -> x.shape(Starts.CIRCLE), 2);
    }

    private static void shapeDue(int shape, int... c) {
        TransformRows x = new TransformRows();
        int conic = x.conic(c[0], c[1], c[2], c[3], c[4], c[5]);
        x.conic(0, 1, 0, 7, 0, -9);
        due("shape of " + Arrays.toString(c), x.shape(conic), shape);
    }

    /** "the first that fits": of each two that are next to each other, both sides of what parts them. */
    private static void shapesNextToEachOther() {
        // D is 0, or just below it, or just above it.
        shapeDue(0, 1, 0, 1, 0, 0, 0);
        shapeDue(2, 1, 0, 1, 0, 0, -1);
        shapeDue(1, 1, 0, 1, 0, 0, 1);
        shapeDue(0, 2, 1, 3, 0, 0, 0);
        shapeDue(3, 2, 1, 3, 0, 0, -1);
        shapeDue(1, 2, 1, 3, 0, 0, 1);
        shapeDue(0, 1, 0, -1, 0, 0, 0);
        shapeDue(5, 1, 0, -1, 0, 0, -1);
        shapeDue(5, 1, 0, -1, 0, 0, 1);
        shapeDue(0, 1, 2, 1, 0, 0, 1);
        shapeDue(4, 1, 2, 1, 1, 0, 1);
        // a D above 0, but 4 a c is b b, or below it: points lie on it.
        shapeDue(4, 1, 0, 0, 0, 1, 1);
        shapeDue(5, 1, 3, 1, 0, 0, -1);
        shapeDue(5, 1, 3, 1, 0, 0, 1);
        // A circle only if a is c and b is 0.
        shapeDue(3, 1, 1, 1, 0, 0, -1);
        shapeDue(3, 1, -1, 1, 0, 0, -1);
        shapeDue(3, 1, 0, 2, 0, 0, -1);
        shapeDue(2, 2, 0, 2, 1, 1, -1);
        // 4 a c above b b, is b b, is below it.
        shapeDue(3, 1, 1, 1, 1, 0, 0);
        shapeDue(4, 1, 2, 1, 1, 0, 0);
        shapeDue(5, 1, 3, 1, 1, 0, 0);
        shapeDue(4, 0, 0, 1, 1, 0, 0);
        shapeDue(5, 0, 1, 0, 0, 0, 1);
        // D is -2, less in size than a.
        shapeDue(3, 5, 4, 1, 2, 1, 0);
        // By D alone: the place of the middle counts.
        shapeDue(0, 1, 0, 1, 6, 8, 25);
        shapeDue(1, 1, 0, 1, 6, 8, 26);
        shapeDue(2, 1, 0, 1, 6, 8, 24);
    }

    /** The same with NUMBERS up to 500, where D is beyond an int. */
    private static void shapesOfTheLargest() {
        shapeDue(4, 500, 500, 125, 0, 1, 1);
        shapeDue(5, 500, 500, 124, 0, 1, 1);
        shapeDue(3, 500, 500, 126, 0, 10, 0);
        shapeDue(1, 500, -500, 126, 0, 1, 500);
        shapeDue(2, 499, 0, 499, 500, 500, -500);
        shapeDue(3, 500, 0, 499, 500, 500, -500);
        shapeDue(1, 499, 0, 500, 500, 500, 500);
        shapeDue(5, 1, 500, 1, 500, 500, 500);
        shapeDue(0, 1, 0, 0, 0, 0, -500);
        shapeDue(5, 500, 499, -500, 500, 499, -500);
    }

    // ---- Promise 9

    private static void ratioDue(String what, TransformRows x, int[] p, long above, long below) {
        due(what + ", above", x.cross(p[0], p[1], p[2], p[3], 0), above);
        due(what + ", below", x.cross(p[0], p[1], p[2], p[3], 1), below);
    }

    /** POINTS 9 .. 12 behind some(): at 2, 3, 5 and the FAR one of the axis; ORIGIN and EAST lie on it. */
    private static void axis(TransformRows x) {
        Starts.given(x);
        x.point(2, 0, 1);
        x.point(3, 0, 1);
        x.point(5, 0, 1);
        x.point(1, 0, 0);
    }

    /** "when k is 0: 1 and 0": p is s; its neighbours: p is r, p is q. */
    private static void crossAtItsEnds() {
        TransformRows x = new TransformRows();
        axis(x);
        ratioDue("p is s", x, new int[] {9, 1, 0, 9}, 1, 0);
        ratioDue("p is r", x, new int[] {0, 1, 0, 9}, 0, 1);
        ratioDue("p is q", x, new int[] {1, 1, 0, 9}, 1, 1);
        ratioDue("p is the FAR s", x, new int[] {12, 1, 0, 12}, 1, 0);
        ratioDue("p is the FAR r", x, new int[] {12, 1, 12, 9}, 0, 1);
        ratioDue("p is the FAR q", x, new int[] {12, 12, 0, 9}, 1, 1);
        // 3 is -1/2 of 0 and 3/2 of 2, so what is above would be below 0.
        ratioDue("p is s, q beyond it", x, new int[] {9, 10, 0, 9}, 1, 0);
        ratioDue("p is r, q beyond s", x, new int[] {0, 10, 0, 9}, 0, 1);
        for (int side = 0; side < 2; side++) {
            int of = side;
            REFUSED.due("a question changes nothing", ObjectsEdgesTest::axis, y -> y.cross(9, 1, 0, 9, of), 1 - side);
        }
    }

    /** "as a fraction in least numbers, what is above the line (side 0), what is below, above 0 (1)" */
    private static void crossBelowIsAboveZero() {
        TransformRows x = new TransformRows();
        axis(x);
        // 3 = -1/2 of 0 and 3/2 of 2, 5 = -3/2 of 0 and 5/2 of 2, 1 = 1/2 and 1/2.
        ratioDue("-3", x, new int[] {10, 1, 0, 9}, -3, 1);
        ratioDue("-5 / 3", x, new int[] {11, 1, 0, 9}, -5, 3);
        ratioDue("-1 / 3", x, new int[] {1, 10, 0, 9}, -1, 3);
        ratioDue("5 / 9", x, new int[] {11, 10, 0, 9}, 5, 9);
        ratioDue("9 / 5", x, new int[] {10, 11, 0, 9}, 9, 5);
        ratioDue("by the FAR one", x, new int[] {12, 1, 0, 9}, -1, 1);
    }

    /** Of the largest NUMBERS: above and below are products beyond an int. */
    private static void crossOfTheLargest() {
        TransformRows x = new TransformRows();
        int p = x.point(498, 0, -497);
        int q = x.point(1, 0, 500);
        int r = x.point(499, 0, 500);
        int s = x.point(-500, 0, 499);
        // With [p q] for the product of p's x and q's w without that of q's x and p's w, it is
        // [r p] [q s] / ([p s] [r q]): -497003 times 250499 by 2 times 249000.
        ratioDue("large", x, new int[] {p, q, r, s}, -124498754497L, 498000L);
        ratioDue("the other way up", x, new int[] {q, p, r, s}, -498000L, 124498754497L);
        // The determinant of the last two with the first, (-500, 499, 497) or (1, 1, 1), is 1 in size.
        int[] on = {x.point(499, 500, 500), x.point(499, 0, 1), x.point(0, 500, 499)};
        due("on the LINE", x.cross(on[0], on[1], on[0], on[2], 0), 0);
        due("off by one", x.cross(x.point(-500, 499, 497), on[1], on[0], on[2], 0), NONE);
        due("off by one", x.cross(x.point(1, 1, 1), on[1], on[0], on[2], 1), NONE);
        due("off by one, q", x.cross(on[1], x.point(1, 1, 1), on[0], on[2], 1), NONE);
    }

    /** "Long.MIN_VALUE: UNKNOWN": each of the four. */
    private static void crossOfOtherSorts() {
        int[] others = {Starts.AXIS, Starts.CIRCLE, 13, -1, 60, Integer.MIN_VALUE, Integer.MAX_VALUE, 477218589};
        for (int place = 0; place < 4; place++) {
            for (int other : others) {
                int[] p = {10, 1, 0, 9};
                p[place] = other;
                for (int side = 0; side < 2; side++) {
                    int of = side;
                    REFUSED.due("none at " + place, ObjectsEdgesTest::axis,
                            x -> x.cross(p[0], p[1], p[2], p[3], of), NONE);
                }
            }
        }
    }

    /** "OUTSIDE (side)" */
    private static void crossSides() {
        for (int side : new int[] {-1, 2, Integer.MIN_VALUE, Integer.MAX_VALUE}) {
            REFUSED.due("side " + side, ObjectsEdgesTest::axis, x -> x.cross(10, 1, 0, 9, side), NONE);
        }
    }

    /** "they do not all lie on one LINE": any one of the four off it. */
    private static void crossOffTheLine() {
        for (int place = 0; place < 4; place++) {
            for (int off : new int[] {Starts.NORTH, Starts.FAR_POINT}) {
                int[] p = {10, 1, 0, 9};
                p[place] = off;
                REFUSED.due("off at " + place, ObjectsEdgesTest::axis, x -> x.cross(p[0], p[1], p[2], p[3], 0), NONE);
                REFUSED.due("off at " + place, ObjectsEdgesTest::axis, x -> x.cross(p[0], p[1], p[2], p[3], 1), NONE);
            }
        }
    }

    /** "r is s, q is r or s." */
    private static void crossOfTheSame() {
        int[][] same = {{10, 1, 0, 0}, {10, 0, 0, 9}, {10, 9, 0, 9}, {0, 0, 0, 0}, {10, 0, 0, 0}, {0, 1, 0, 0},
            {12, 1, 12, 12}, {0, 0, 0, 9}, {9, 9, 0, 9}};
        for (int[] p : same) {
            for (int side = 0; side < 2; side++) {
                int of = side;
                REFUSED.due(Arrays.toString(p), ObjectsEdgesTest::axis, x -> x.cross(p[0], p[1], p[2], p[3], of), NONE);
            }
        }
    }
}
