/** Promises 1 to 9: a new object, POINTS, LINES and CONICS. */
public final class ObjectsTest {
    private static final int UNKNOWN = Checks.UNKNOWN, OUTSIDE = Checks.OUTSIDE, WRONG = Checks.WRONG,
            ROOM = Checks.ROOM;
    private static final long NONE = Checks.NONE;
    private static final Checks CHECKS = new Checks("ObjectsTest");

    public static void main(String[] args) {
        newObject();
        eachIsItsOwn();
        points();
        pointsUpTo60();
        lines();
        conics();
        numbers();
        joins();
        joinRoom();
        lyingOn();
        shapes();
        crossRatios();
        crossRefused();
        crossOnOtherLines();
        CHECKS.end();
    }

    private static void due(String call, long got, long want) {
        CHECKS.due(call, got, want);
    }

    private static void newObject() {
        TransformRows x = new TransformRows();
        for (int what = 0; what < 3; what++) {
            due("new: count(" + what + ")", x.count(what), 0);
        }
        due("new: number", x.number(0, 0), UNKNOWN);
        due("new: entry", x.entry(0, 0), UNKNOWN);
        due("new: give", x.give(0), UNKNOWN);
        due("new: make", x.make(0, 0, 0), WRONG);
        due("new: seed", x.seed(0), UNKNOWN);
        due("new: among", x.among(0), UNKNOWN);
        CHECKS.elementDue("new", x, 0, 1, 0, 0, 0, 1, 0, 0, 0, 1);
        due("new: element(1, 0)", x.element(1, 0), OUTSIDE);
        due("new: group", x.group(48), 1);
    }

    private static void eachIsItsOwn() {
        TransformRows one = new TransformRows();
        TransformRows two = new TransformRows();
        one.point(1, 2, 3);
        one.give(0);
        due("the other has no OBJECTS", two.count(0), 0);
        due("the other has nothing in THE ROW", two.count(2), 0);
        due("point of the other", two.point(5, 6, 7), 0);
        due("the first stays", one.number(0, 0), 1001);
    }

    private static void points() {
        TransformRows x = new TransformRows();
        due("point", x.point(-4, 6, 0), 0);
        CHECKS.objectDue("(-4, 6, 0)", x, 0, 0, 2, -3, 0);
        due("the like one", x.point(332, -498, 0), 0);
        due("the like one", x.point(-2, 3, 0), 0);
        due("first is 0", x.point(0, -3, 9), 1);
        CHECKS.objectDue("(0, -3, 9)", x, 1, 0, 0, 1, -3);
        due("only the last", x.point(0, 0, -500), 2);
        CHECKS.objectDue("(0, 0, -500)", x, 2, 0, 0, 0, 1);
        due("largest", x.point(500, -499, -500), 3);
        CHECKS.objectDue("largest", x, 3, 0, 500, -499, -500);
        due("all 0", x.point(0, 0, 0), WRONG);
        int[] beyond = {501, -501, Integer.MIN_VALUE, Integer.MAX_VALUE};
        for (int far : beyond) {
            due("x " + far, x.point(far, 0, 0), OUTSIDE);
            due("y " + far, x.point(1, far, 1), OUTSIDE);
            due("w " + far, x.point(0, 0, far), OUTSIDE);
        }
        due("nothing is changed", x.count(0), 4);
    }

    private static void pointsUpTo60() {
        TransformRows x = new TransformRows();
        for (int k = 0; k < 60; k++) {
            due("point " + k, x.point(k, 1, 1), k);
        }
        due("60 OBJECTS", x.point(99, 1, 1), ROOM);
        due("60 OBJECTS, the like one", x.point(-118, -2, -2), 59);
        due("60 OBJECTS, all 0", x.point(0, 0, 0), WRONG);
        due("60 OBJECTS, out of bounds", x.point(501, 0, 0), OUTSIDE);
        due("60 OBJECTS, a LINE", x.line(4, 1, 1), ROOM);
        due("60 OBJECTS, a CONIC", x.conic(4, 1, 1, 0, 0, 0), ROOM);
        due("60 OBJECTS", x.count(0), 60);
        CHECKS.objectDue("the last one", x, 59, 0, 59, 1, 1);
        due("no OBJECT 60", x.number(60, 0), UNKNOWN);
    }

    private static void lines() {
        TransformRows x = new TransformRows();
        due("point", x.point(1, 2, 3), 0);
        due("a LINE is no POINT", x.line(1, 2, 3), 1);
        due("the like one", x.line(-100, -200, -300), 1);
        due("line", x.line(0, -2, 500), 2);
        CHECKS.objectDue("(0, -2, 500)", x, 2, 1, 0, 1, -250);
        due("all 0", x.line(0, 0, 0), WRONG);
        due("a", x.line(-501, 0, 0), OUTSIDE);
        due("b", x.line(0, 501, 0), OUTSIDE);
        due("c", x.line(0, 0, -501), OUTSIDE);
        due("nothing is changed", x.count(0), 3);
    }

    private static void conics() {
        TransformRows x = new TransformRows();
        due("conic", x.conic(0, -6, 0, 9, 0, -3), 0);
        CHECKS.objectDue("(0, -6, 0, 9, 0, -3)", x, 0, 2, 0, 2, 0, -3, 0, 1);
        due("the like one", x.conic(0, 2, 0, -3, 0, 1), 0);
        due("another last number", x.conic(0, 2, 0, -3, 0, 2), 1);
        due("largest", x.conic(500, -500, 499, 0, 0, -500), 2);
        due("all 0", x.conic(0, 0, 0, 0, 0, 0), WRONG);
        for (int i = 0; i < 6; i++) {
            int[] c = {1, 1, 1, 1, 1, 1};
            c[i] = i % 2 == 0 ? 501 : -501;
            due("out of bounds at " + i, x.conic(c[0], c[1], c[2], c[3], c[4], c[5]), OUTSIDE);
        }
        due("nothing is changed", x.count(0), 3);
        due("a CONIC is no POINT", x.point(0, 2, 0), 3);
    }

    private static void numbers() {
        TransformRows x = new TransformRows();
        x.point(3, -1, 2);
        x.line(1, 0, -500);
        x.conic(1, 2, 3, 4, 5, -500);
        CHECKS.objectDue("POINT", x, 0, 0, 3, -1, 2);
        CHECKS.objectDue("LINE", x, 1, 1, 1, 0, -500);
        CHECKS.objectDue("CONIC", x, 2, 2, 1, 2, 3, 4, 5, -500);
        for (int i : new int[] {-1, 3, 4, 5, 7, Integer.MIN_VALUE, Integer.MAX_VALUE}) {
            due("of a POINT, " + i, x.number(0, i), OUTSIDE);
            due("of a LINE, " + i, x.number(1, i), OUTSIDE);
        }
        for (int i : new int[] {-1, 7, Integer.MIN_VALUE, Integer.MAX_VALUE}) {
            due("of a CONIC, " + i, x.number(2, i), OUTSIDE);
            due("UNKNOWN comes first, " + i, x.number(3, i), UNKNOWN);
        }
        for (int k : Checks.NO_NUMBERS) {
            due("of none", x.number(k, 6), UNKNOWN);
        }
    }

    private static void joins() {
        TransformRows x = new TransformRows();
        int origin = x.point(0, 0, 1);
        int half = x.point(1, 1, 2);
        int far = x.point(1, 0, 0);
        int line = x.line(1, 1, -1);
        int conic = x.conic(1, 0, 1, 0, 0, -1);
        due("through two POINTS", x.join(half, origin), 5);
        CHECKS.objectDue("through two POINTS", x, 5, 1, 1, -1, 0);
        due("the like one", x.join(origin, half), 5);
        due("a FAR POINT", x.join(half, far), 6);
        CHECKS.objectDue("with a FAR POINT", x, 6, 1, 0, 2, -1);
        due("on two LINES", x.join(line, 5), half);
        due("on two LINES", x.join(6, 5), half);
        due("on LINES side by side", x.join(x.line(0, 1, 0), 6), far);
        due("through two FAR POINTS", x.join(far, x.point(0, 1, 0)), 9);
        CHECKS.objectDue("through two FAR POINTS", x, 9, 1, 0, 0, 1);
        due("one POINT", x.join(half, half), WRONG);
        due("one LINE", x.join(line, line), WRONG);
        due("one CONIC", x.join(conic, conic), UNKNOWN);
        due("a POINT and a LINE", x.join(origin, line), UNKNOWN);
        due("a LINE and a POINT", x.join(line, origin), UNKNOWN);
        due("a POINT and a CONIC", x.join(origin, conic), UNKNOWN);
        for (int k : Checks.NO_NUMBERS) {
            due("none and a POINT", x.join(k, origin), UNKNOWN);
            due("a POINT and none", x.join(origin, k), UNKNOWN);
            due("none twice", x.join(k, k), UNKNOWN);
        }
        due("nothing is changed", x.count(0), 10);
    }

    private static void joinRoom() {
        TransformRows x = new TransformRows();
        due("NO ROOM for a NUMBER", x.join(x.point(500, 1, 1), x.point(1, 499, 2)), ROOM);
        due("nothing is changed", x.count(0), 2);
        // Their product is 500 times a row that has room.
        due("LEAST it has room", x.join(x.point(500, 0, 1), x.point(0, 500, 1)), 4);
        CHECKS.objectDue("LEAST it has room", x, 4, 1, 1, 1, -500);
        due("500", x.join(x.point(0, 0, 1), x.point(1, 500, 250)), 7);
        CHECKS.objectDue("500", x, 7, 1, 500, -1, 0);
        // (1, 0, -167) and (0, 3, -2) meet at (501, 2, 3).
        due("501", x.join(x.line(1, 0, -167), x.line(0, 3, -2)), ROOM);
        TransformRows full = new TransformRows();
        full.line(0, 1, -1);
        for (int k = 1; k < 60; k++) {
            full.point(k, k < 50 ? 1 : 2, 1);
        }
        due("60 OBJECTS, the like one", full.join(1, 2), 0);
        due("60 OBJECTS", full.join(2, 58), ROOM);
        due("60 OBJECTS, they are one", full.join(2, 2), WRONG);
        due("60 OBJECTS, unlike sorts", full.join(0, 2), UNKNOWN);
    }

    private static void lyingOn() {
        TransformRows x = new TransformRows();
        int p = x.point(3, 4, 1);
        int far = x.point(4, -3, 0);
        int line = x.line(3, 4, -25);
        int circle = x.conic(1, 0, 1, 0, 0, -25);
        due("on a LINE", x.on(p, line), 1);
        due("a FAR POINT on a LINE", x.on(far, line), 1);
        due("not on a LINE", x.on(x.point(0, 0, 1), line), 0);
        due("on a CONIC", x.on(p, circle), 1);
        due("not on a CONIC", x.on(far, circle), 0);
        int all = x.conic(1, 2, 3, 4, 5, -15);
        due("on a CONIC of six", x.on(x.point(1, 1, 1), all), 1);
        due("not on a CONIC of six", x.on(x.point(1, 1, -1), all), 0);
        // 4 + 12 + 27 - 8 - 15 - 20 = 0
        due("w is -1", x.on(x.point(2, 3, -1), x.conic(1, 2, 3, 4, 5, -20)), 1);
        due("the largest", x.on(x.point(499, 500, 498), x.conic(500, 499, 498, 497, 496, 495)), 0);
        due("a POINT on a POINT", x.on(p, p), UNKNOWN);
        due("a LINE on a LINE", x.on(line, line), UNKNOWN);
        due("a LINE on a CONIC", x.on(line, circle), UNKNOWN);
        due("a LINE on a POINT", x.on(line, p), UNKNOWN);
        for (int k : Checks.NO_NUMBERS) {
            due("none on a LINE", x.on(k, line), UNKNOWN);
            due("a POINT on none", x.on(p, k), UNKNOWN);
        }
    }

    private static void shapes() {
        int[][] conics = {
            {0, 1, 0, -1, 0, 0, 0}, {0, 1, 0, 1, 0, 0, 0}, {0, 0, 0, 0, 0, 0, 1}, {0, 1, 2, 1, 0, 0, -1},
            {0, 0, 0, 0, 1, 1, 0}, {0, 1, 0, 1, -4, 6, 13}, {1, 1, 0, 1, 0, 0, 1}, {1, 2, 1, 3, 0, 0, 5},
            {1, 1, 0, 1, -4, 6, 14}, {2, 1, 0, 1, 0, 0, -25}, {2, 1, 0, 1, -4, 6, 12}, {3, 1, 1, 1, 0, 0, -1},
            {3, 4, 0, 9, 0, 0, -36}, {4, 1, 0, 0, 0, -1, 0}, {4, 1, 2, 1, 1, 0, 0}, {4, 0, 0, 1, -4, 0, 0},
            {5, 0, 1, 0, 0, 0, -1}, {5, 1, 0, -1, 0, 0, -1}, {5, 1, 0, -1, 0, 0, 1}, {5, 1, 3, 1, 0, 0, -1},
            {3, 500, 1, 499, 500, -500, -500}, {1, 500, 1, 499, 1, 1, 500},
        };
        TransformRows x = new TransformRows();
        for (int[] c : conics) {
            int k = x.conic(c[1], c[2], c[3], c[4], c[5], c[6]);
            String name = c[1] + " " + c[2] + " " + c[3] + " " + c[4] + " " + c[5] + " " + c[6];
            due("shape of " + name, x.shape(k), c[0]);
        }
        due("of a POINT", x.shape(x.point(1, 1, 1)), UNKNOWN);
        due("of a LINE", x.shape(x.line(1, 1, 1)), UNKNOWN);
        for (int k : Checks.NO_NUMBERS) {
            due("of none", x.shape(k), UNKNOWN);
        }
    }

    private static void ratioDue(TransformRows x, int[] p, long above, long below) {
        String call = "cross(" + p[0] + ", " + p[1] + ", " + p[2] + ", " + p[3] + ", ";
        due(call + "0)", x.cross(p[0], p[1], p[2], p[3], 0), above);
        due(call + "1)", x.cross(p[0], p[1], p[2], p[3], 1), below);
    }

    /** On the axis at 0, 1, 2, 3, 5, and the FAR one of it. */
    private static TransformRows axis() {
        TransformRows x = new TransformRows();
        for (int k : new int[] {0, 1, 2, 3, 5}) {
            x.point(k, 0, 1);
        }
        x.point(1, 0, 0);
        return x;
    }

    private static void crossRatios() {
        TransformRows x = axis();
        int far = 5;
        // 1 is 1/2 of 0 and 1/2 of 2; 3 is -1/2 of 0 and 3/2 of 2.
        ratioDue(x, new int[] {3, 1, 0, 2}, -3, 1);
        // 5 is -3/2 of 0 and 5/2 of 2.
        ratioDue(x, new int[] {4, 1, 0, 2}, -5, 3);
        ratioDue(x, new int[] {far, 1, 0, 2}, -1, 1);
        ratioDue(x, new int[] {1, far, 0, 2}, -1, 1);
        // 1 is 0 and once the FAR one, 5 is 0 and five times the FAR one.
        ratioDue(x, new int[] {4, 1, 0, far}, 5, 1);
        ratioDue(x, new int[] {1, 4, 0, far}, 1, 5);
        ratioDue(x, new int[] {1, 1, 0, 2}, 1, 1);
        ratioDue(x, new int[] {0, 1, 0, 2}, 0, 1);
        ratioDue(x, new int[] {2, 1, 0, 2}, 1, 0);
    }

    private static void crossRefused() {
        TransformRows x = axis();
        int off = x.point(0, 1, 1);
        int line = x.line(0, 1, 0);
        int[][] wrong = {{off, 1, 0, 2}, {3, off, 0, 2}, {3, 1, off, 2}, {3, 1, 0, off}, {3, 1, 0, 0}, {3, 0, 0, 2},
            {3, 2, 0, 2}, {line, 1, 0, 2}, {3, line, 0, 2}, {3, 1, line, 2}, {3, 1, 0, line}, {60, 1, 0, 2},
            {3, -1, 0, 2}, {3, 1, Integer.MAX_VALUE, 2}, {3, 1, 0, Integer.MIN_VALUE}, {0, 0, 0, 0}};
        for (int[] p : wrong) {
            ratioDue(x, p, NONE, NONE);
        }
        for (int side : new int[] {-1, 2, Integer.MIN_VALUE, Integer.MAX_VALUE}) {
            due("side " + side, x.cross(3, 1, 0, 2, side), NONE);
        }
    }

    /** At 7, 2, 1, 3 along an upright LINE, a slanting one, the FAR one, and by other ws. */
    private static void crossOnOtherLines() {
        TransformRows x = new TransformRows();
        int[][] ways = {{0, 1, 0, 0, 0, 1}, {1, 1, 0, 0, 3, 1}, {1, 0, 0, 0, 1, 0}, {0, 0, 1, 1, 2, 0}};
        int[] steps = {7, 2, 1, 3};
        for (int[] w : ways) {
            int[] p = new int[4];
            for (int i = 0; i < 4; i++) {
                p[i] = x.point(steps[i] * w[0] + w[3], steps[i] * w[1] + w[4], steps[i] * w[2] + w[5]);
            }
            // 2 is 1/2 of 1 and 1/2 of 3; 7 is -2 of 1 and 3 of 3.
            ratioDue(x, p, -3, 2);
        }
    }
}
