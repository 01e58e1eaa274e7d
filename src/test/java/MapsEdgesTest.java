import java.util.Arrays;

/**
 * Promises 12 to 20, and what the terms say of KINDS, OWN VALUES and FIXED, sentence by sentence: the
 * last that is taken, the first that is refused.
 */
public final class MapsEdgesTest {
    private static final int UNKNOWN = Checks.UNKNOWN, OUTSIDE = Checks.OUTSIDE, WRONG = Checks.WRONG,
            ROOM = Checks.ROOM;
    private static final long NONE = Checks.NONE;
    private static final int POINT = 0, LINE = 1, CONIC = 2;
    private static final int ORIGIN = Starts.ORIGIN, EAST = Starts.EAST, NORTH = Starts.NORTH, CORNER = Starts.CORNER,
            AXIS = Starts.AXIS, FAR_LINE = Starts.FAR_LINE, SLOPE = Starts.SLOPE, CIRCLE = Starts.CIRCLE;
    private static final int QUARTER = Starts.QUARTER, MIRROR = Starts.MIRROR, SHIFT = Starts.SHIFT;
    private static final int[] STAYS = {1, 0, 0, 0, 1, 0, 0, 0, 1};
    private static final Checks CHECKS = new Checks("MapsEdgesTest");
    private static final Refused REFUSED = new Refused(CHECKS);

    public static void main(String[] args) {
        countsAtTheirEnds();
        countsBeyond();
        entriesAtTheirEnds();
        entriesBeyond();
        mapsThatAreNot();
        thenUpTo500();
        thenBeyond500();
        fortiethByThen();
        backUpTo500();
        backBeyond500();
        fortiethByBack();
        imagesUpTo500();
        imagesBeyond500();
        sixtiethByImage();
        sixtyAndImage();
        likenessesApart();
        turnedOverOnesApart();
        otherAffineOnesApart();
        projectiveOnesApart();
        howManyOwnValues();
        ownValuesBeyond();
        ownValuesAtTheirEnds();
        fixedPointsUpTo500();
        fixedLinesUpTo500();
        fixedAll();
        fixedBeyond();
        sixtiethByFixed();
        sixtyAndFixed();
        ordersAtTheirEnds();
        ordersBeyond();
        ordersJustSoOften();
        ordersOfNone();
        ordersWithoutRoom();
        takenOnesChangeNoMore();
        CHECKS.end();
    }

    private static void due(String call, long got, long want) {
        CHECKS.due(call, got, want);
    }

    private static TransformRows some() {
        TransformRows x = new TransformRows();
        Starts.some(x);
        return x;
    }

    /** The MAP that takes ORIGIN, EAST and NORTH to these POINTS. */
    private static int affine(TransformRows x, int[] o, int[] e, int[] n) {
        return Checks.made(x, 6, 0, 0, x.point(0, 0, 1), x.point(1, 0, 1), x.point(0, 1, 1),
                x.point(o[0], o[1], o[2]), x.point(e[0], e[1], e[2]), x.point(n[0], n[1], n[2]));
    }

    private static int[] p(int... numbers) {
        return numbers;
    }

    /** A call that is taken changes what it tells and no more: as if the same had come in by another one. */
    private static void takenOnesChangeNoMore() {
        Refused.Part start = x -> {
            Starts.given(x);
            x.line(1, 1, 0);
        };
        sameAs("join", start, x -> x.join(ORIGIN, CORNER), x -> x.line(1, -1, 0));
        sameAs("image", start, x -> x.image(QUARTER, CORNER), x -> x.point(-1, 1, 1));
        sameAs("fixed", start, x -> x.fixed(MIRROR, 0), x -> x.point(0, 1, 0));
        Refused.Part noRow = x -> {
            Starts.some(x);
            x.line(1, 1, 0);
        };
        sameAs("then", noRow, x -> x.then(QUARTER, MIRROR), x -> Checks.made(x, 2, 0, 0, 9));
        sameAs("back", noRow, x -> x.back(QUARTER), x -> Checks.made(x, 1, -1, 1, ORIGIN));
        sameAs("then, with one in THE ROW", x -> {
            noRow.on(x);
            x.then(QUARTER, MIRROR);
        }, x -> x.give(CORNER), x -> {
            x.give(CORNER);
            return x.then(QUARTER, MIRROR);
        });
    }

    private static void sameAs(String what, Refused.Part start, Refused.Call one, Refused.Call other) {
        REFUSED.same(what, x -> {
            start.on(x);
            one.on(x);
        }, x -> {
            start.on(x);
            other.on(x);
        });
    }

    // ---- Promise 12

    /** "How many: 0 OBJECTS, 1 MAPS, 2 in THE ROW.": none, some, all that there can be. */
    private static void countsAtTheirEnds() {
        TransformRows x = new TransformRows();
        for (int what = 0; what < 3; what++) {
            due("none", x.count(what), 0);
        }
        TransformRows sixty = new TransformRows();
        Starts.sixtyObjects(sixty);
        due("60 OBJECTS", sixty.count(0), 60);
        due("two MAPS", sixty.count(1), 2);
        for (int k = 2; k <= 8; k++) {
            sixty.give(59);
            due("in THE ROW", sixty.count(2), k);
        }
        TransformRows forty = new TransformRows();
        Starts.fortyMaps(forty);
        due("40 MAPS", forty.count(1), 40);
        due("9 OBJECTS", forty.count(0), 9);
        due("nothing in THE ROW", forty.count(2), 0);
    }

    /** "OUTSIDE." */
    private static void countsBeyond() {
        for (int what : new int[] {-1, 3, Integer.MIN_VALUE, Integer.MAX_VALUE}) {
            REFUSED.due("count(" + what + ")", Starts::given, x -> x.count(what), OUTSIDE);
        }
        for (int what = 0; what < 3; what++) {
            int of = what;
            long[] due = {9, 2, 1};
            REFUSED.due("a question changes nothing", Starts::given, x -> x.count(of), due[of]);
        }
    }

    // ---- Promise 13

    /** "NUMBER i (0 .. 8) of a MAP's LEAST row, and 1000." From 500 to 1500. */
    private static void entriesAtTheirEnds() {
        for (int size : new int[] {500, -500}) {
            for (int place = size > 0 ? 0 : 1; place < 9; place++) {
                int[] table = STAYS.clone();
                table[place] = size;
                TransformRows x = new TransformRows();
                CHECKS.mapDue("500 at " + place, x, Checks.table(x, table), table);
            }
        }
    }

    /** "UNKNOWN; OUTSIDE." */
    private static void entriesBeyond() {
        for (int i : new int[] {-1, 9, Integer.MIN_VALUE, Integer.MAX_VALUE}) {
            REFUSED.due("entry(1, " + i + ")", Starts::given, x -> x.entry(MIRROR, i), OUTSIDE);
            REFUSED.due("UNKNOWN before OUTSIDE", Starts::given, x -> x.entry(Starts.MAPS, i), UNKNOWN);
            REFUSED.due("UNKNOWN before OUTSIDE", Starts::given, x -> x.entry(-1, i), UNKNOWN);
        }
        TransformRows x = new TransformRows();
        Starts.fortyMaps(x);
        due("of the last MAP", x.entry(39, 2), 1038);
        due("of the first MAP", x.entry(0, 8), 999);
    }

    // ---- Promises 13 to 20: "UNKNOWN (a number of a MAP, an OBJECT that there is not ..)"

    private static void mapsThatAreNot() {
        int[] none = {Starts.MAPS, 39, 40, -1, Integer.MIN_VALUE, Integer.MAX_VALUE, 477218589};
        for (int k : none) {
            unknownDue(Starts::given, k);
        }
        unknownDue(Starts::fortyMapsGiven, 40);
        unknownDue(Starts::fortyMapsGiven, -1);
        for (int k : new int[] {Starts.OBJECTS, 60, -1, Integer.MIN_VALUE, Integer.MAX_VALUE, 477218589}) {
            REFUSED.due("image of none", Starts::given, x -> x.image(QUARTER, k), UNKNOWN);
            REFUSED.due("image of none by none", Starts::given, x -> x.image(Starts.MAPS, k), UNKNOWN);
        }
        REFUSED.due("image of none, 60 OBJECTS", Starts::sixtyObjects, x -> x.image(QUARTER, 60), UNKNOWN);
    }

    private static void unknownDue(Refused.Part start, int k) {
        REFUSED.due("entry of " + k, start, x -> x.entry(k, 0), UNKNOWN);
        REFUSED.due("none, then one, " + k, start, x -> x.then(k, MIRROR), UNKNOWN);
        REFUSED.due("one, then none, " + k, start, x -> x.then(MIRROR, k), UNKNOWN);
        REFUSED.due("none, then none, " + k, start, x -> x.then(k, k), UNKNOWN);
        REFUSED.due("back of " + k, start, x -> x.back(k), UNKNOWN);
        REFUSED.due("image by " + k, start, x -> x.image(k, ORIGIN), UNKNOWN);
        REFUSED.due("kind of " + k, start, x -> x.kind(k), UNKNOWN);
        REFUSED.due("own of " + k, start, x -> x.own(k, 0), NONE);
        REFUSED.due("fixed of " + k, start, x -> x.fixed(k, 0), UNKNOWN);
        REFUSED.due("fixed of " + k, start, x -> x.fixed(k, -1), UNKNOWN);
        REFUSED.due("fixed of " + k, start, x -> x.fixed(k, 3), UNKNOWN);
        REFUSED.due("order of " + k, start, x -> x.order(k, 1), UNKNOWN);
        REFUSED.due("order of " + k, start, x -> x.order(k, 0), UNKNOWN);
        REFUSED.due("order of " + k, start, x -> x.order(k, 61), UNKNOWN);
    }

    // ---- Promise 14

    /** MAPS 2 and 3 are shifts by these across; THE ROW holds one. */
    private static void twoShifts(TransformRows x, int one, int other) {
        Starts.some(x);
        Checks.shift(x, one, 0);
        Checks.shift(x, other, 0);
        x.give(CORNER);
    }

    /** "Each of a LEAST row is 500 at most in size": the largest that then makes. */
    private static void thenUpTo500() {
        for (int sign : new int[] {1, -1}) {
            TransformRows x = new TransformRows();
            twoShifts(x, sign * 499, sign);
            due("499, then 1", x.then(2, 3), 4);
            CHECKS.mapDue("499, then 1", x, 4, 1, 0, sign * 500, 0, 1, 0, 0, 0, 1);
            due("the like one", x.then(3, 2), 4);
            due("no more", x.count(1), 5);
            due("THE ROW stays", x.count(2), 1);
        }
        TransformRows x = some();
        int small = affine(x, p(0, 0, 1), p(1, 0, 20), p(0, 1, 1));
        int smaller = affine(x, p(0, 0, 1), p(1, 0, 25), p(0, 1, 1));
        CHECKS.mapDue("500 below", x, x.then(small, smaller), 1, 0, 0, 0, 500, 0, 0, 0, 500);
        // LEAST: all is divided before it is told whether there is room.
        int large = affine(x, p(0, 0, 1), p(20, 0, 1), p(0, 1, 1));
        CHECKS.mapDue("there and back", x, x.then(small, large), STAYS);
    }

    /** "else there is NO ROOM for it" */
    private static void thenBeyond500() {
        for (int sign : new int[] {1, -1}) {
            Refused.Part start = x -> twoShifts(x, sign * 500, sign);
            REFUSED.due("500, then 1", start, x -> x.then(2, 3), ROOM);
            REFUSED.due("1, then 500", start, x -> x.then(3, 2), ROOM);
            REFUSED.due("500, then 500", start, x -> x.then(2, 2), ROOM);
        }
        // 3 times 167 is 501.
        REFUSED.due("501 below", x -> {
            Starts.some(x);
            affine(x, p(0, 0, 1), p(1, 0, 3), p(0, 1, 1));
            affine(x, p(0, 0, 1), p(1, 0, 167), p(0, 1, 1));
            x.give(CORNER);
        }, x -> x.then(2, 3), ROOM);
        REFUSED.due("far too large", x -> {
            Starts.some(x);
            Checks.any(x, 500, 499, 498, 499, -500, 497, 500, 500, -499);
            x.give(CORNER);
        }, x -> x.then(2, 2), ROOM);
    }

    /** "MAPS, 40 at most, each row once" */
    private static void fortiethByThen() {
        TransformRows x = new TransformRows();
        Starts.maps(x, 39);
        due("the 40th", x.then(QUARTER, MIRROR), 39);
        CHECKS.mapDue("the 40th", x, 39, 0, 1, 0, 1, 0, 0, 0, 0, -1);
        due("the like one", x.then(QUARTER, MIRROR), 39);
        REFUSED.due("the 41st", Starts::fortyMapsGiven, y -> y.then(QUARTER, MIRROR), ROOM);
        REFUSED.due("the 41st", Starts::fortyMapsGiven, y -> y.then(SHIFT, 39), ROOM);
        REFUSED.due("of 40, the like one", Starts::fortyMapsGiven, y -> y.then(SHIFT, 38), 39);
    }

    // ---- Promise 15

    /** MAP 2 is a times as wide, b times as high: back it has b, a, and a times b below. */
    private static void wide(TransformRows x, int a, int b) {
        Starts.some(x);
        affine(x, p(0, 0, 1), p(a, 0, 1), p(0, b, 1));
        x.give(CORNER);
    }

    /** "Each of a LEAST row is 500 at most in size": the largest that back makes. */
    private static void backUpTo500() {
        TransformRows x = new TransformRows();
        wide(x, 4, 125);
        due("back", x.back(2), 3);
        CHECKS.mapDue("4 times 125", x, 3, 125, 0, 0, 0, 4, 0, 0, 0, 500);
        due("back again", x.back(3), 2);
        due("no more", x.count(1), 4);
        TransformRows y = new TransformRows();
        wide(y, -4, 125);
        CHECKS.mapDue("-4 times 125", y, y.back(2), 125, 0, 0, 0, -4, 0, 0, 0, -500);
        TransformRows z = new TransformRows();
        wide(z, 500, 500);
        CHECKS.mapDue("LEAST", z, z.back(2), 1, 0, 0, 0, 1, 0, 0, 0, 500);
        TransformRows s = some();
        CHECKS.mapDue("a shift back", s, s.back(Checks.shift(s, 500, -500)), 1, 0, -500, 0, 1, 500, 0, 0, 1);
    }

    /** "else there is NO ROOM for it" */
    private static void backBeyond500() {
        REFUSED.due("3 times 167", x -> wide(x, 3, 167), x -> x.back(2), ROOM);
        REFUSED.due("-3 times 167", x -> wide(x, -3, 167), x -> x.back(2), ROOM);
        REFUSED.due("500 times 499", x -> wide(x, 500, 499), x -> x.back(2), ROOM);
    }

    /** "MAPS, 40 at most, each row once" */
    private static void fortiethByBack() {
        TransformRows x = new TransformRows();
        Starts.maps(x, 39);
        due("the 40th", x.back(QUARTER), 39);
        CHECKS.mapDue("the 40th", x, 39, 0, 1, 0, -1, 0, 0, 0, 0, 1);
        REFUSED.due("the 41st", Starts::fortyMapsGiven, y -> y.back(QUARTER), ROOM);
        REFUSED.due("the 41st", Starts::fortyMapsGiven, y -> y.back(39), ROOM);
        REFUSED.due("of 40, the like one", Starts::fortyMapsGiven, y -> y.back(MIRROR), MIRROR);
    }

    // ---- Promise 16

    /** MAPS 2 and 3 are shifts by 1 and -1 across; THE ROW holds one. */
    private static void oneAside(TransformRows x) {
        Starts.some(x);
        Checks.shift(x, 1, 0);
        Checks.shift(x, -1, 0);
        x.give(CORNER);
    }

    private static int enter(TransformRows x, int sort, int[] n) {
        return sort == POINT ? x.point(n[0], n[1], n[2]) : sort == LINE ? x.line(n[0], n[1], n[2])
                : x.conic(n[0], n[1], n[2], n[3], n[4], n[5]);
    }

    private static void imageDue(int map, int sort, int[] of, int[] want) {
        TransformRows x = new TransformRows();
        oneAside(x);
        int object = enter(x, sort, of);
        int image = x.image(map, object);
        due("the image has the next number", image, object + 1);
        CHECKS.objectDue("the image", x, image, sort, want);
        due("the like one", x.image(map, object), image);
        due("THE ROW stays", x.count(2), 1);
    }

    /** "The image of an OBJECT: its number.": the largest of each sort. */
    private static void imagesUpTo500() {
        imageDue(2, POINT, p(499, 3, 1), p(500, 3, 1));
        imageDue(3, POINT, p(499, 3, -1), p(500, 3, -1));
        imageDue(3, POINT, p(-499, 3, 1), p(500, -3, -1));
        imageDue(2, LINE, p(1, 7, -499), p(1, 7, -500));
        imageDue(3, LINE, p(1, 7, 499), p(1, 7, 500));
        imageDue(2, CONIC, p(0, 0, 1, 1, 0, -499), p(0, 0, 1, 1, 0, -500));
        imageDue(3, CONIC, p(0, 0, 1, 1, 0, 499), p(0, 0, 1, 1, 0, 500));
        // (x - 1)(x - 1) 249 and 2 x: the middle goes from -2 to -500.
        imageDue(2, CONIC, p(249, 0, 1, -2, 0, 0), p(249, 0, 1, -500, 0, 251));
    }

    private static void imageRefused(int map, int sort, int... of) {
        REFUSED.due("no image of sort " + sort, x -> {
            oneAside(x);
            enter(x, sort, of);
        }, x -> x.image(map, Starts.OBJECTS + 1), ROOM);
    }

    /** "else there is NO ROOM for it": a POINT, a LINE, a CONIC. OBJECT 9 is the POINT of MAP 3. */
    private static void imagesBeyond500() {
        imageRefused(2, POINT, 500, 3, 1);
        imageRefused(3, POINT, -500, 3, 1);
        imageRefused(3, POINT, 500, 3, -1);
        imageRefused(2, LINE, 1, 7, -500);
        imageRefused(3, LINE, 1, 7, 500);
        imageRefused(2, CONIC, 0, 0, 1, 1, 0, -500);
        imageRefused(3, CONIC, 0, 0, 1, 1, 0, 500);
        imageRefused(2, CONIC, 249, 0, 1, -3, 0, 0);
        imageRefused(3, CONIC, 249, 0, 1, 3, 0, 0);
    }

    /** OBJECT 9 is a CONIC that does not stay by a quarter; THE ROW holds one. */
    private static void objects(TransformRows x, int many) {
        Starts.given(x);
        x.conic(1, 0, 0, 0, 1, 0);
        for (int k = 10; k < many; k++) {
            x.point(k, 7, 1);
        }
    }

    /** "OBJECTS, 60 at most": the last one, by image. */
    private static void sixtiethByImage() {
        int[] of = {CORNER, AXIS, 9};
        int[][] want = {{1, -1, -1}, {1, 0, 0}, {0, 0, 1, -1, 0, 0}};
        for (int sort = POINT; sort <= CONIC; sort++) {
            TransformRows x = new TransformRows();
            objects(x, 59);
            due("the 60th", x.image(QUARTER, of[sort]), 59);
            CHECKS.objectDue("the 60th", x, 59, sort, want[sort]);
            due("the like one", x.image(QUARTER, of[sort]), 59);
            due("60 OBJECTS", x.count(0), 60);
        }
    }

    /** "ROOM (.. 60 OBJECTS ..)"; one that is there is answered. */
    private static void sixtyAndImage() {
        REFUSED.due("the 61st POINT", Starts::sixtyObjects, x -> x.image(QUARTER, CORNER), ROOM);
        REFUSED.due("the 61st LINE", Starts::sixtyObjects, x -> x.image(QUARTER, AXIS), ROOM);
        REFUSED.due("the 61st CONIC", x -> objects(x, 60), x -> x.image(QUARTER, 9), ROOM);
        REFUSED.due("a POINT that is there", Starts::sixtyObjects, x -> x.image(QUARTER, EAST), NORTH);
        REFUSED.due("a LINE that is there", Starts::sixtyObjects, x -> x.image(QUARTER, FAR_LINE), FAR_LINE);
        REFUSED.due("a CONIC that is there", Starts::sixtyObjects, x -> x.image(QUARTER, CIRCLE), CIRCLE);
    }

    // ---- Promise 17: "KINDS, the first one that fits"

    private static void kindDue(int kind, int... table) {
        TransformRows x = new TransformRows();
        int map = Checks.table(x, table);
        CHECKS.mapDue("a MAP of kind " + kind, x, map, least(table));
        due("kind of " + Arrays.toString(table), x.kind(map), kind);
    }

    /** None of the tables here has a divisor of all; only the sign may be the other one. */
    private static int[] least(int[] table) {
        int first = 0;
        for (int i = 0; i < 9 && first == 0; i++) {
            first = table[i];
        }
        int[] least = table.clone();
        for (int i = 0; i < 9 && first < 0; i++) {
            least[i] = -least[i];
        }
        return least;
    }

    private static void affineKindDue(int kind, int a, int b, int c, int d, int e, int f, int w) {
        kindDue(kind, a, b, c, d, e, f, 0, 0, w);
    }

    private static void likenessesApart() {
        REFUSED.due("a question changes nothing", Starts::given, y -> y.kind(MIRROR), 6);
        affineKindDue(0, 1, 0, 0, 0, 1, 0, 1);
        affineKindDue(1, 1, 0, 1, 0, 1, 0, 1);
        affineKindDue(1, 1, 0, 0, 0, 1, -1, 1);
        affineKindDue(1, 500, 0, 0, 0, 500, 1, 500);
        affineKindDue(2, -1, 0, 0, 0, -1, 0, 1);
        affineKindDue(2, -1, 0, 5, 0, -1, -4, 1);
        affineKindDue(3, 0, -1, 0, 1, 0, 0, 1);
        affineKindDue(3, 3, -4, 1, 4, 3, 1, 5);
        affineKindDue(3, -3, -4, 1, 4, -3, 1, 5);
        affineKindDue(4, -1, 0, 0, 0, -1, 0, 2);
        affineKindDue(4, 2, 0, 1, 0, 2, 1, 1);
        affineKindDue(4, -499, 0, 0, 0, -499, 0, 500);
        affineKindDue(5, 3, -4, 0, 4, 3, 0, 6);
        affineKindDue(5, 0, -2, 0, 2, 0, 0, 1);
        affineKindDue(5, 1, -1, 0, 1, 1, 0, 1);
    }

    private static void turnedOverOnesApart() {
        affineKindDue(6, 1, 0, 0, 0, -1, 0, 1);
        affineKindDue(6, 1, 0, 0, 0, -1, 5, 1);
        affineKindDue(7, 1, 0, 1, 0, -1, 5, 1);
        affineKindDue(6, -1, 0, 5, 0, 1, 0, 1);
        affineKindDue(7, -1, 0, 5, 0, 1, 1, 1);
        affineKindDue(6, 3, 4, 0, 4, -3, 0, 5);
        affineKindDue(6, 3, 4, -1, 4, -3, 2, 5);
        affineKindDue(7, 3, 4, 1, 4, -3, 2, 5);
        affineKindDue(7, 3, 4, 2, 4, -3, 1, 5);
        affineKindDue(8, 3, 4, 0, 4, -3, 0, 6);
        affineKindDue(8, 2, 0, 0, 0, -2, 0, 1);
        affineKindDue(8, 1, 1, 0, 1, -1, 0, 1);
        affineKindDue(8, 1, 0, 1, 0, -1, 0, 2);
    }

    private static void otherAffineOnesApart() {
        // SHEAR: not if it slides along its LINE, or if areas do not stay.
        affineKindDue(9, 1, 1, 0, 0, 1, 0, 1);
        affineKindDue(11, 1, 1, 0, 0, 1, 1, 1);
        affineKindDue(9, 2, 1, 0, -1, 0, 0, 1);
        affineKindDue(9, 2, 1, 3, -1, 0, -3, 1);
        affineKindDue(11, 2, 1, 3, -1, 0, -2, 1);
        // STRAIN: turned over, or areas change.
        affineKindDue(10, 1, 1, 0, 0, -1, 0, 1);
        affineKindDue(10, 1, 0, 0, 0, 2, 0, 1);
        affineKindDue(10, 1, 0, 0, 0, 2, 5, 1);
        affineKindDue(10, 1, 0, 0, 0, -2, 0, 1);
        affineKindDue(10, 2, 0, 3, 0, 1, 0, 1);
        affineKindDue(12, 1, 0, 1, 0, 2, 0, 1);
        affineKindDue(12, 2, 0, 0, 0, 1, 1, 1);
        // Areas stay, turned over or not.
        affineKindDue(11, 1, 1, 1, 0, -1, 0, 1);
        affineKindDue(11, 2, 1, 0, 1, 1, 0, 1);
        affineKindDue(11, 1, 2, 0, 1, 1, 0, 1);
        affineKindDue(12, 3, 1, 0, 1, 1, 0, 1);
        affineKindDue(11, 4, 0, 0, 0, 1, 0, 2);
        affineKindDue(11, 4, 0, 0, 0, -1, 0, 2);
        affineKindDue(12, 4, 0, 0, 0, 1, 0, 3);
    }

    private static void projectiveOnesApart() {
        // (1, 0, 0; 0, 1, 0; c, 0, z) keeps the POINTS of a LINE; its CENTRE is (0, 0, 1).
        kindDue(13, 1, 0, 0, 0, 1, 0, 1, 0, 1);
        kindDue(13, 1, 0, 0, 0, 1, 0, 0, -7, 1);
        kindDue(14, 1, 0, 0, 0, 1, 0, 1, 0, -1);
        kindDue(14, 1, 0, 0, 0, 1, 0, -3, 5, -1);
        kindDue(15, 1, 0, 0, 0, 1, 0, 1, 0, -2);
        kindDue(15, 1, 0, 0, 0, 1, 0, 1, 0, 2);
        kindDue(15, 1, 0, 0, 0, 1, 0, 500, 499, -500);
        kindDue(16, 1, 0, 0, 1, 1, 0, 1, 0, 2);
        kindDue(16, 1, 0, 0, 0, 1, 1, 1, 0, 1);
        kindDue(16, 1, 0, 0, 1, 1, 0, 1, 1, 1);
        // Done thrice all stays, or four times: no LINE of POINTS stays.
        kindDue(16, 0, 1, 0, 0, 0, 1, 1, 0, 0);
        kindDue(16, 0, 0, 1, 0, 1, 0, -1, 0, 0);
        // Far POINTS stay FAR only if both of the last row are 0.
        kindDue(1, 1, 0, 1, 0, 1, 0, 0, 0, 1);
        kindDue(16, 1, 0, 1, 0, 1, 0, 0, 1, 1);
        kindDue(16, 1, 0, 1, 0, 1, 0, 1, 0, 2);
    }

    // ---- Promise 18

    private static void ownDue(String what, TransformRows x, int map, long... values) {
        CHECKS.holds(what + " is a MAP", map >= 0);
        for (int k = 0; k < values.length; k++) {
            due(what + ": own " + k, x.own(map, k), values[k]);
        }
        due(what + ": it has not so many", x.own(map, values.length), NONE);
    }

    private static void ownDue(String what, int[] table, long... values) {
        TransformRows x = new TransformRows();
        int map = Checks.table(x, table);
        CHECKS.mapDue(what, x, map, least(table));
        ownDue(what, x, map, values);
    }

    /** "the whole numbers z, rising, for which there are POINTS p with A p = z p": none, one, two, three. */
    private static void howManyOwnValues() {
        ownDue("none", p(0, 0, 1, 1, 0, 1, 0, 1, 0));
        ownDue("one, thrice", p(1, 0, 0, 0, 1, 0, 0, 0, 1), 1);
        ownDue("one, thrice, of a shift", p(1, 0, 5, 0, 1, 7, 0, 0, 1), 1);
        ownDue("one, the others are no numbers", p(3, -4, 1, 4, 3, 2, 0, 0, 5), 5);
        ownDue("one, the others are not whole", p(1, 1, 0, 1, 0, 0, 0, 0, 1), 1);
        ownDue("two, the higher twice", p(0, 1, 0, 1, 0, 0, 0, 0, 1), -1, 1);
        ownDue("two, the lower twice", p(0, 1, 0, 1, 0, 0, 0, 0, -1), -1, 1);
        ownDue("three", p(1, 0, 0, 1, 2, 0, 1, 1, 3), 1, 2, 3);
        ownDue("three, rising", p(3, 0, 0, 1, -2, 0, 0, 1, 2), -2, 2, 3);
        // Of the LEAST table: its first NUMBER is above 0.
        ownDue("of the LEAST table", p(-1, 0, 0, 0, -1, 0, 0, 0, 2), -2, 1);
    }

    /** "Long.MIN_VALUE: it has not so many, UNKNOWN." */
    private static void ownValuesBeyond() {
        for (int k : new int[] {2, 3, -1, Integer.MIN_VALUE, Integer.MAX_VALUE}) {
            REFUSED.due("own " + k, Starts::given, x -> x.own(MIRROR, k), NONE);
            REFUSED.due("own of none", Starts::given, x -> x.own(Starts.MAPS, k), NONE);
        }
        REFUSED.due("a question changes nothing", Starts::given, x -> x.own(MIRROR, 0), -1);
        REFUSED.due("a question changes nothing", Starts::given, x -> x.own(MIRROR, 1), 1);
    }

    /** As high and as low as they can be, and such as are one NUMBER of the table. */
    private static void ownValuesAtTheirEnds() {
        ownDue("highest", p(500, 500, 499, 500, 499, 500, 499, 500, 500), -1, 1, 1499);
        ownDue("low", p(0, 500, 499, 500, -500, -457, 500, -457, -500), -1332, -43, 375);
        ownDue("500", p(500, 1, 0, 0, 499, 1, 0, 0, 1), 1, 499, 500);
        ownDue("-500", p(1, 0, 0, 1, -500, 0, 0, 1, -499), -500, -499, 1);
        // Rows and columns of one NUMBER: each place counts for how far they can reach.
        ownDue("9 at 1", p(0, 9, 0, 1, 0, 0, 0, 0, 1), -3, 1, 3);
        ownDue("9 at 2", p(0, 0, 9, 0, 1, 0, 1, 0, 0), -3, 1, 3);
        ownDue("9 at 3", p(0, 1, 0, 9, 0, 0, 0, 0, 1), -3, 1, 3);
        ownDue("9 at 5", p(1, 0, 0, 0, 0, 9, 0, 1, 0), -3, 1, 3);
        ownDue("9 at 6", p(0, 0, 1, 0, 1, 0, 9, 0, 0), -3, 1, 3);
        ownDue("9 at 7", p(1, 0, 0, 0, 0, 1, 0, 9, 0), -3, 1, 3);
        ownDue("-999", p(1, 0, 0, 0, -500, -499, 0, -499, -500), -999, -1, 1);
    }

    // ---- Promise 19

    /** (1, -500, 500 - b) stays by 1. */
    private static void steep(TransformRows x, int b) {
        Starts.some(x);
        Checks.table(x, 1, 0, 0, 500, 2, 0, b, 1, 2);
        x.give(CORNER);
    }

    /** "What is FIXED by OWN VALUE k: a POINT .. : its number." 500 is taken, 501 is refused. */
    private static void fixedPointsUpTo500() {
        TransformRows x = new TransformRows();
        steep(x, 0);
        int before = x.count(0);
        due("own", x.own(2, 0), 1);
        due("the next number", x.fixed(2, 0), before);
        CHECKS.objectDue("(1, -500, 500)", x, before, POINT, 1, -500, 500);
        due("the like one", x.fixed(2, 0), before);
        due("one more", x.count(0), before + 1);
        REFUSED.due("(1, -500, 501)", y -> steep(y, -1), y -> y.fixed(2, 0), ROOM);
        REFUSED.due("(1, -500, 1000)", y -> steep(y, -500), y -> y.fixed(2, 0), ROOM);
        TransformRows z = new TransformRows();
        steep(z, 500);
        CHECKS.objectDue("(1, -500, 0)", z, z.fixed(2, 0), POINT, 1, -500, 0);
    }

    /** All of the LINE (1, 0, -z - 250) stays by z. */
    private static void level(TransformRows x, int z) {
        Starts.some(x);
        Checks.table(x, z, 0, 0, 0, z, 0, 1, 0, -250);
        x.give(CORNER);
    }

    /** "or the LINE: its number." 500 is taken, 501 is refused. */
    private static void fixedLinesUpTo500() {
        TransformRows x = new TransformRows();
        level(x, 250);
        CHECKS.mapDue("level", x, 2, 250, 0, 0, 0, 250, 0, 1, 0, -250);
        ownDue("level", x, 2, -250, 250);
        int before = x.count(0);
        due("the next number", x.fixed(2, 1), before);
        CHECKS.objectDue("(1, 0, -500)", x, before, LINE, 1, 0, -500);
        due("the like one", x.fixed(2, 1), before);
        TransformRows y = new TransformRows();
        level(y, 251);
        CHECKS.mapDue("too level", y, 2, 251, 0, 0, 0, 251, 0, 1, 0, -250);
        CHECKS.objectDue("its POINT", y, y.fixed(2, 0), POINT, 0, 0, 1);
        REFUSED.due("(1, 0, -501)", z -> level(z, 251), z -> z.fixed(2, 1), ROOM);
    }

    /** "WRONG: all." */
    private static void fixedAll() {
        Refused.Part start = x -> {
            Starts.some(x);
            Checks.shift(x, 0, 0);
            x.give(CORNER);
        };
        REFUSED.due("all", start, x -> x.fixed(2, 0), WRONG);
        REFUSED.due("all, and not so many", start, x -> x.fixed(2, 1), OUTSIDE);
        REFUSED.due("all, and not so many", start, x -> x.fixed(2, -1), OUTSIDE);
        TransformRows x = some();
        Checks.shift(x, 1, 0);
        due("all of a LINE", x.fixed(2, 0), FAR_LINE);
    }

    /** "UNKNOWN; OUTSIDE: it has not so many" */
    private static void fixedBeyond() {
        for (int k : new int[] {2, 3, -1, Integer.MIN_VALUE, Integer.MAX_VALUE}) {
            REFUSED.due("fixed " + k, Starts::given, x -> x.fixed(MIRROR, k), OUTSIDE);
            REFUSED.due("UNKNOWN before OUTSIDE", Starts::given, x -> x.fixed(Starts.MAPS, k), UNKNOWN);
            REFUSED.due("OUTSIDE before ROOM", Starts::sixtyObjects, x -> x.fixed(MIRROR, k), OUTSIDE);
        }
        REFUSED.due("a quarter has one", Starts::given, x -> x.fixed(QUARTER, 0), ORIGIN);
        REFUSED.due("a quarter has one", Starts::given, x -> x.fixed(QUARTER, 1), OUTSIDE);
        REFUSED.due("none at all", x -> {
            Starts.some(x);
            Checks.any(x, 0, 0, 1, 1, 0, 1, 0, 1, 0);
            x.give(CORNER);
        }, x -> x.fixed(2, 0), OUTSIDE);
    }

    /** "OBJECTS, 60 at most": the last one, by fixed. */
    private static void sixtiethByFixed() {
        TransformRows x = new TransformRows();
        Starts.objects(x, 59);
        due("the 60th", x.fixed(MIRROR, 0), 59);
        CHECKS.objectDue("the 60th", x, 59, POINT, 0, 1, 0);
        due("the like one", x.fixed(MIRROR, 0), 59);
    }

    /** "ROOM (.. 60 OBJECTS ..)"; one that is there is answered; WRONG comes first. */
    private static void sixtyAndFixed() {
        REFUSED.due("the 61st", Starts::sixtyObjects, x -> x.fixed(MIRROR, 0), ROOM);
        REFUSED.due("a LINE that is there", Starts::sixtyObjects, x -> x.fixed(MIRROR, 1), AXIS);
        REFUSED.due("a POINT that is there", Starts::sixtyObjects, x -> x.fixed(QUARTER, 0), ORIGIN);
        REFUSED.due("WRONG before ROOM", x -> {
            Starts.some(x);
            Checks.shift(x, 0, 0);
            for (int k = 9; k < 60; k++) {
                x.point(k, 7, 1);
            }
            x.give(CORNER);
        }, x -> x.fixed(2, 0), WRONG);
    }

    // ---- Promise 20

    /** "(1 .. most; most 1 .. 60)": the first and the last most. */
    private static void ordersAtTheirEnds() {
        REFUSED.due("most 1", Starts::given, x -> x.order(QUARTER, 1), 0);
        REFUSED.due("most 3", Starts::given, x -> x.order(QUARTER, 3), 0);
        REFUSED.due("most 4", Starts::given, x -> x.order(QUARTER, 4), 4);
        REFUSED.due("most 60", Starts::given, x -> x.order(QUARTER, 60), 4);
        TransformRows x = new TransformRows();
        due("all that stays, most 1", x.order(Checks.shift(x, 0, 0), 1), 1);
        due("all that stays, most 60", x.order(0, 60), 1);
    }

    /** "UNKNOWN; OUTSIDE." */
    private static void ordersBeyond() {
        for (int most : new int[] {0, 61, -1, Integer.MIN_VALUE, Integer.MAX_VALUE}) {
            REFUSED.due("most " + most, Starts::given, x -> x.order(MIRROR, most), OUTSIDE);
            REFUSED.due("UNKNOWN before OUTSIDE", Starts::given, x -> x.order(Starts.MAPS, most), UNKNOWN);
        }
    }

    /** "The least number of times": just so often, one less, one more. */
    private static void ordersJustSoOften() {
        int[][] tables = {{1, 0, 0, 1}, {-1, 0, 0, -1}, {0, -1, 1, -1}, {0, -1, 1, 0}, {1, -1, 1, 0}};
        int[] orders = {1, 2, 3, 4, 6};
        for (int i = 0; i < orders.length; i++) {
            int[] t = tables[i];
            TransformRows x = new TransformRows();
            int map = affine(x, p(0, 0, 1), p(t[0], t[2], 1), p(t[1], t[3], 1));
            for (int most = 1; most <= 60; most++) {
                due("order " + orders[i] + ", most " + most, x.order(map, most), most < orders[i] ? 0 : orders[i]);
            }
        }
        // Thrice is 2 times all that stays.
        TransformRows x = new TransformRows();
        int thrice = Checks.made(x, 7, 0, 0, x.point(1, 0, 0), x.point(0, 1, 0), x.point(0, 0, 1), x.point(1, 1, 1),
                x.point(0, 1, 0), x.point(0, 0, 1), x.point(1, 0, 0), x.point(2, 1, 1));
        CHECKS.mapDue("thrice", x, thrice, 0, 0, 2, 1, 0, 0, 0, 1, 0);
        due("thrice", x.order(thrice, 60), 3);
        due("not twice", x.order(thrice, 2), 0);
    }

    /** "0: none such" */
    private static void ordersOfNone() {
        REFUSED.due("a shift by 1, 60 times", x -> {
            Starts.maps(x, 3);
            x.give(CORNER);
        }, x -> x.order(SHIFT, 60), 0);
        TransformRows x = new TransformRows();
        due("a shear", x.order(Checks.any(x, 1, 8, 0, 0, 1, 0, 0, 0, 1), 60), 0);
        due("a shear and half a turn", x.order(affine(x, p(0, 0, 1), p(-1, 0, 1), p(1, -1, 1)), 60), 0);
    }

    /** Thrice all stays; what it is done twice has (p - q, p) aside. */
    private static int byThree(TransformRows x, int p, int q) {
        return affine(x, p(p, q, 1), p(p, q + 1, 1), p(p - 1, q - 1, 1));
    }

    /** "or NO ROOM for what it is done so often": 500 aside has room, 501 has none. */
    private static void ordersWithoutRoom() {
        TransformRows x = some();
        due("500, done twice", x.order(byThree(x, 250, -250), 60), 3);
        due("500, done twice", x.order(byThree(x, -250, 250), 3), 3);
        due("501, done twice", x.order(byThree(x, 250, -251), 60), 0);
        due("501, done twice", x.order(byThree(x, -250, 251), 3), 0);
        due("a quarter, 500 by half", x.order(Checks.made(x, 1, 1, 1, x.point(250, 0, 1)), 60), 4);
        due("a quarter, 502 by half", x.order(Checks.made(x, 1, 1, 1, x.point(251, 0, 1)), 60), 0);
        due("a shift by 500", x.order(Checks.shift(x, 500, 0), 60), 0);
        due("a shift by 500, once", x.order(Checks.shift(x, 500, 0), 1), 0);
        REFUSED.due("nothing is changed", y -> {
            Starts.some(y);
            byThree(y, 250, -251);
            y.give(CORNER);
        }, y -> y.order(2, 60), 0);
    }
}
