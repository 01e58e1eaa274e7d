/**
 * Objects to begin with. Each is made by so few calls that a look at all that it holds stays within
 * the 512 calls of the document.
 */
final class Starts {
    /** The OBJECTS of some(). */
    static final int ORIGIN = 0, EAST = 1, NORTH = 2, CORNER = 3, FAR_POINT = 4, AXIS = 5, FAR_LINE = 6,
            SLOPE = 7, CIRCLE = 8, OBJECTS = 9;
    /** The MAPS of some(); those of maps() behind them are shifts by 1, 2 and so on. */
    static final int QUARTER = 0, MIRROR = 1, MAPS = 2, SHIFT = 2;

    private Starts() {
    }

    static void nothing(TransformRows x) {
    }

    /** OBJECTS of each sort, two MAPS, THE GROUP of a square, one SEED, and nothing in THE ROW. */
    static void some(TransformRows x) {
        x.point(0, 0, 1);
        x.point(1, 0, 1);
        x.point(0, 1, 1);
        x.point(1, 1, 1);
        x.point(1, 2, 0);
        x.line(0, 1, 0);
        x.line(0, 0, 1);
        x.line(1, 1, -3);
        x.conic(1, 0, 1, 0, 0, -25);
        Checks.made(x, 1, 1, 1, ORIGIN);
        Checks.made(x, 2, 0, 0, AXIS);
        x.seed(QUARTER);
        x.seed(MIRROR);
        x.group(48);
        x.seed(MIRROR);
    }

    /** The same, and one POINT in THE ROW. */
    static void given(TransformRows x) {
        some(x);
        x.give(CORNER);
    }

    /** As many OBJECTS, 9 .. 60, and one POINT in THE ROW. OBJECT k behind the 9 is (k, 7, 1). */
    static void objects(TransformRows x, int many) {
        given(x);
        for (int k = OBJECTS; k < many; k++) {
            x.point(k, 7, 1);
        }
    }

    static void sixtyObjects(TransformRows x) {
        objects(x, 60);
    }

    /** As many MAPS, 3 .. 40, and nothing in THE ROW. MAP k behind the two is a shift by (k - 1, 0). */
    static void maps(TransformRows x, int many) {
        some(x);
        Checks.made(x, 0, 0, 0, EAST);
        for (int k = SHIFT + 1; k < many; k++) {
            x.then(SHIFT, k - 1);
        }
    }

    static void fortyMaps(TransformRows x) {
        maps(x, 40);
    }

    /** With one POINT in THE ROW, whose SHIFT is there. */
    static void fortyMapsGiven(TransformRows x) {
        maps(x, 40);
        x.give(EAST);
    }
}
