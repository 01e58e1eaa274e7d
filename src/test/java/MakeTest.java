/** Promises 10 and 11: THE ROW, and the nine kinds of MAPS to make from it. */
public final class MakeTest {
    private static final int UNKNOWN = Checks.UNKNOWN, OUTSIDE = Checks.OUTSIDE, WRONG = Checks.WRONG,
            ROOM = Checks.ROOM;
    private static final Checks CHECKS = new Checks("MakeTest");

    public static void main(String[] args) {
        giving();
        bounds();
        theWrongOnes();
        shifts();
        turns();
        mirrors();
        stretches();
        glides();
        likenesses();
        likenessesRefused();
        affineOnes();
        affineRefused();
        projectiveOnes();
        projectiveRefused();
        projectiveOfLargeRows();
        anyOnes();
        room();
        CHECKS.end();
    }

    private static void due(String call, long got, long want) {
        CHECKS.due(call, got, want);
    }

    private static int made(TransformRows x, int kind, int u, int v, int... given) {
        return Checks.made(x, kind, u, v, given);
    }

    private static void giving() {
        TransformRows x = new TransformRows();
        x.point(1, 2, 3);
        x.line(1, 2, 3);
        x.conic(1, 2, 3, 4, 5, 6);
        for (int k = 1; k <= 8; k++) {
            due("give " + k, x.give(k % 3), k);
            due("count(2)", x.count(2), k);
        }
        due("there are 8", x.give(0), ROOM);
        due("none, and there are 8", x.give(3), UNKNOWN);
        due("count(2)", x.count(2), 8);
        due("8 of all sorts", x.make(7, 0, 0), WRONG);
        due("THE ROW is empty", x.count(2), 0);
        for (int k : Checks.NO_NUMBERS) {
            due("give none", x.give(k), UNKNOWN);
        }
        due("THE ROW is empty", x.count(2), 0);
        due("give again", x.give(2), 1);
    }

    private static void bounds() {
        TransformRows x = new TransformRows();
        x.give(x.point(1, 2, 1));
        int[][] wrong = {{-1, 0, 0}, {9, 0, 0}, {Integer.MAX_VALUE, 0, 0}, {Integer.MIN_VALUE, 0, 0}, {0, 1001, 0},
            {0, -1001, 0}, {0, 0, 1001}, {0, 0, -1001}, {1, Integer.MIN_VALUE, 1}, {1, 1, Integer.MAX_VALUE}};
        for (int[] w : wrong) {
            due("make(" + w[0] + ", " + w[1] + ", " + w[2] + ")", x.make(w[0], w[1], w[2]), OUTSIDE);
        }
        due("THE ROW stays", x.count(2), 1);
        due("no MAP", x.count(1), 0);
        due("within bounds", x.make(0, 1000, -1000), 0);
        due("THE ROW is empty", x.count(2), 0);
        due("one MAP", x.count(1), 1);
    }

    private static void theWrongOnes() {
        TransformRows x = new TransformRows();
        int p = x.point(1, 2, 1);
        int far = x.point(1, 2, 0);
        int line = x.line(1, 0, 0);
        int farLine = x.line(0, 0, 1);
        int conic = x.conic(1, 1, 1, 1, 1, 1);
        for (int kind = 0; kind <= 8; kind++) {
            due("from nothing " + kind, x.make(kind, 1, 1), WRONG);
            due("two POINTS " + kind, made(x, kind, 1, 1, p, p), WRONG);
            due("two LINES " + kind, made(x, kind, 1, 1, line, line), WRONG);
            due("a POINT and a LINE " + kind, made(x, kind, 1, 1, p, line), WRONG);
            due("a CONIC " + kind, made(x, kind, 1, 1, conic), WRONG);
            due("THE ROW is empty", x.count(2), 0);
        }
        for (int kind : new int[] {0, 1, 3}) {
            due("a LINE " + kind, made(x, kind, 1, 1, line), WRONG);
            due("a FAR POINT " + kind, made(x, kind, 1, 1, far), WRONG);
        }
        for (int kind : new int[] {2, 4}) {
            due("a POINT " + kind, made(x, kind, 1, 1, p), WRONG);
            due("the FAR LINE " + kind, made(x, kind, 1, 1, farLine), WRONG);
        }
        due("no MAP", x.count(1), 0);
    }

    private static void shifts() {
        TransformRows x = new TransformRows();
        int p = x.point(-1, 2, 2);
        CHECKS.mapDue("SHIFT", x, made(x, 0, 0, 0, p), 2, 0, -1, 0, 2, 2, 0, 0, 2);
        due("by what u and v ever", made(x, 0, 5, -7, p), 0);
        CHECKS.mapDue("SHIFT by nothing", x, made(x, 0, 0, 0, x.point(0, 0, 1)), 1, 0, 0, 0, 1, 0, 0, 0, 1);
    }

    private static void turns() {
        TransformRows x = new TransformRows();
        int p = x.point(-1, 2, 2);
        int q = x.point(3, 1, 1);
        // (x, y) goes to (4 - y, x - 2), then to (y + 2, 4 - x), to (-1 - x, 2 - y).
        CHECKS.mapDue("by a quarter", x, made(x, 1, 1, 1, q), 0, 1, -4, -1, 0, 2, 0, 0, -1);
        CHECKS.mapDue("a quarter to the right", x, made(x, 1, -1, 1, q), 0, 1, 2, -1, 0, 4, 0, 0, 1);
        CHECKS.mapDue("by half", x, made(x, 1, 0, -7, p), 1, 0, 1, 0, 1, -2, 0, 0, -1);
        CHECKS.mapDue("by nothing", x, made(x, 1, 5, 0, p), 1, 0, 0, 0, 1, 0, 0, 0, 1);
        CHECKS.mapDue("cosine 4 / 5", x, made(x, 1, 3, 1, q), 4, -3, 6, 3, 4, -8, 0, 0, 5);
        due("the like one", made(x, 1, -999, -333, q), 4);
        due("both 0", made(x, 1, 0, 0, q), WRONG);
        due("NO ROOM", made(x, 1, 1000, 999, q), ROOM);
        due("THE ROW is empty", x.count(2), 0);
    }

    private static void mirrors() {
        TransformRows x = new TransformRows();
        CHECKS.mapDue("MIRROR", x, made(x, 2, 7, 0, x.line(1, 2, -5)), 3, -4, 10, -4, -3, 20, 0, 0, 5);
        CHECKS.mapDue("x = y", x, made(x, 2, 0, 0, x.line(1, -1, 0)), 0, 1, 0, 1, 0, 0, 0, 0, 1);
        CHECKS.mapDue("3 y = 1", x, made(x, 2, 0, 0, x.line(0, 3, -1)), 3, 0, 0, 0, -3, 2, 0, 0, 3);
    }

    private static void stretches() {
        TransformRows x = new TransformRows();
        int p = x.point(-1, 2, 2);
        int q = x.point(3, 1, 1);
        CHECKS.mapDue("by -2", x, made(x, 3, 4, -2, p), 4, 0, 3, 0, 4, -6, 0, 0, -2);
        CHECKS.mapDue("by 1 / 3", x, made(x, 3, 1, 3, q), 1, 0, 6, 0, 1, 2, 0, 0, 3);
        CHECKS.mapDue("by 1", x, made(x, 3, 7, 7, q), 1, 0, 0, 0, 1, 0, 0, 0, 1);
        due("by 0", made(x, 3, 0, 2, q), WRONG);
        due("v is 0", made(x, 3, 2, 0, q), WRONG);
        int origin = x.point(0, 0, 1);
        CHECKS.mapDue("by 500", x, made(x, 3, 1000, 2, origin), 500, 0, 0, 0, 500, 0, 0, 0, 1);
        due("by 501", made(x, 3, 501, 1, origin), ROOM);
    }

    private static void glides() {
        TransformRows x = new TransformRows();
        int line = x.line(1, 2, -5);
        // (0, 0) goes to (2, 4), then by (-1, 1 / 2).
        CHECKS.mapDue("GLIDE", x, made(x, 4, 1, 2, line), 6, -8, 10, -8, -6, 45, 0, 0, 10);
        CHECKS.mapDue("the other way", x, made(x, 4, 1, -1, line), 3, -4, 20, -4, -3, 15, 0, 0, 5);
        CHECKS.mapDue("by 0", x, made(x, 4, 0, 9, line), 3, -4, 10, -4, -3, 20, 0, 0, 5);
        due("v is 0", made(x, 4, 1, 0, line), WRONG);
        // The LEAST row of the LINE counts: (-1, 0) is the way along it, not (2, 0).
        CHECKS.mapDue("LEAST", x, made(x, 4, 3, 1, x.line(0, -2, 0)), 1, 0, -3, 0, -1, 0, 0, 0, 1);
    }

    private static void likenesses() {
        TransformRows x = new TransformRows();
        int o = x.point(0, 0, 1);
        int e = x.point(1, 0, 1);
        int r = x.point(1, 1, 1);
        int s = x.point(1, 3, 1);
        CHECKS.mapDue("a quarter, twice as large", x, made(x, 5, 0, 0, o, e, r, s), 0, 2, -1, -2, 0, -1, 0, 0, -1);
        CHECKS.mapDue("all stays", x, made(x, 5, 0, 0, o, e, o, e), 1, 0, 0, 0, 1, 0, 0, 0, 1);
        CHECKS.mapDue("changed places", x, made(x, 5, 0, 0, o, e, e, o), 1, 0, -1, 0, 1, 0, 0, 0, -1);
        // 3 - i times as large, and by (-1 + i) / 2.
        int map = made(x, 5, 0, 0, x.point(1, 0, 2), x.point(0, 1, 2), e, x.point(0, 2, 1));
        CHECKS.mapDue("with halves", x, map, 6, 2, -1, -2, 6, 1, 0, 0, 2);
        due("the same by others", made(x, 5, 0, 0, x.point(1, 1, 2), x.point(1, 0, 2), x.point(3, 3, 2), e), map);
        int large = x.point(500, 499, 1);
        int negative = x.point(500, -1, -499);
        due("one place to another", made(x, 5, 0, 0, large, negative, large, negative), 1);
        due("NO ROOM", made(x, 5, 0, 0, o, e, large, negative), ROOM);
        due("THE ROW is empty", x.count(2), 0);
    }

    private static void likenessesRefused() {
        TransformRows x = new TransformRows();
        int o = x.point(0, 0, 1);
        int e = x.point(1, 0, 1);
        int n = x.point(0, 1, 1);
        int far = x.point(1, 1, 0);
        int line = x.line(1, 1, 1);
        int[][] wrong = {{o, o, e, n}, {o, e, n, n}, {far, e, o, n}, {o, far, o, n}, {o, e, far, n}, {o, e, n, far},
            {o, e, n}, {o, e, n, o, e}, {line, e, o, n}, {o, e, o, line}};
        for (int[] given : wrong) {
            due("LIKENESS", made(x, 5, 0, 0, given), WRONG);
        }
        due("no MAP", x.count(1), 0);
    }

    private static void affineOnes() {
        TransformRows x = new TransformRows();
        int o = x.point(0, 0, 1);
        int e = x.point(2, 0, 1);
        int n = x.point(0, 2, 1);
        int map = made(x, 6, 0, 0, o, e, n, x.point(1, 0, 2), x.point(0, 1, 3), x.point(1, 1, 1));
        CHECKS.mapDue("with fractions", x, map, 3, -3, -6, -2, -6, 0, 0, 0, -12);
        CHECKS.mapDue("in order", x, made(x, 6, 0, 0, o, e, n, e, n, o), 1, 1, -2, -1, 0, 0, 0, 0, -1);
        int a = x.point(-500, 499, 499);
        int b = x.point(500, 498, 499);
        int c = x.point(497, -499, 500);
        due("large rows that stay", made(x, 6, 0, 0, a, b, c, a, b, c), 2);
        CHECKS.mapDue("large rows that stay", x, 2, 1, 0, 0, 0, 1, 0, 0, 0, 1);
        due("NO ROOM", made(x, 6, 0, 0, a, b, c, o, e, n), ROOM);
    }

    private static void affineRefused() {
        TransformRows x = new TransformRows();
        int o = x.point(0, 0, 1);
        int e = x.point(1, 0, 1);
        int n = x.point(0, 1, 1);
        int w = x.point(-1, 0, 1);
        int far = x.point(1, 1, 0);
        int line = x.line(1, 1, 1);
        int[][] wrong = {{o, e, w, o, e, n}, {o, e, n, e, o, w}, {o, o, n, o, e, n}, {o, e, n, o, n, n},
            {far, e, n, o, e, n}, {o, e, far, o, e, n}, {o, e, n, far, e, n}, {o, e, n, o, e, far},
            {o, e, n, o, e}, {o, e, n, o, e, n, w}, {o, e, n, o, e, line}, {o, e, n, w, o, e, n, w}};
        for (int[] given : wrong) {
            due("AFFINE", made(x, 6, 0, 0, given), WRONG);
        }
        due("no MAP", x.count(1), 0);
    }

    private static void projectiveOnes() {
        TransformRows x = new TransformRows();
        int o = x.point(0, 0, 1);
        int e = x.point(1, 0, 1);
        int n = x.point(0, 1, 1);
        int m = x.point(1, 1, 1);
        int far = x.point(1, 0, 0);
        int up = x.point(0, 1, 0);
        CHECKS.mapDue("a square to another shape", x, made(x, 7, 0, 0, o, e, n, m, o, x.point(2, 0, 1), n, m),
                2, 0, 0, 0, 2, 0, 0, 1, 1);
        CHECKS.mapDue("FAR ones to near ones", x, made(x, 7, 0, 0, far, up, o, m, e, n, o, m),
                1, 0, 0, 0, 1, 0, 1, 1, -1);
        CHECKS.mapDue("all stays", x, made(x, 7, 0, 0, o, e, n, m, o, e, n, m), 1, 0, 0, 0, 1, 0, 0, 0, 1);
        // The unit rows count once, twice and five times: (2, 5, 6), (9, 5, 7) and (1, 1, 1) are theirs.
        CHECKS.mapDue("by weights", x, made(x, 7, 0, 0, far, up, o, m, x.point(2, 5, 6), x.point(9, 5, 7), m,
                x.point(25, 20, 25)), 2, 18, 5, 5, 10, 5, 6, 14, 5);
        // (x, y) goes to (y, 1 - x).
        CHECKS.mapDue("around a square", x, made(x, 7, 0, 0, o, e, m, n, n, o, e, m), 0, 1, 0, -1, 0, 1, 0, 0, 1);
    }

    private static void projectiveRefused() {
        TransformRows x = new TransformRows();
        int o = x.point(0, 0, 1);
        int e = x.point(1, 0, 1);
        int n = x.point(0, 1, 1);
        int m = x.point(1, 1, 1);
        int line = x.line(1, 1, 1);
        int[][] thrice = {{o, e, x.point(2, 0, 1), n}, {o, e, n, x.point(3, 0, 1)}, {o, n, e, x.point(4, 0, 1)},
            {n, o, e, x.point(1, 0, 0)}, {o, o, e, n}, {o, e, n, n}, {o, e, n, line}, {line, e, n, o}};
        for (int[] p : thrice) {
            due("the first four", made(x, 7, 0, 0, p[0], p[1], p[2], p[3], o, e, n, m), WRONG);
            due("the last four", made(x, 7, 0, 0, o, e, n, m, p[0], p[1], p[2], p[3]), WRONG);
        }
        due("seven", made(x, 7, 0, 0, o, e, n, m, o, e, n), WRONG);
        due("six", made(x, 7, 0, 0, o, e, n, m, o, e), WRONG);
        due("no MAP", x.count(1), 0);
        due("THE ROW is empty", x.count(2), 0);
    }

    /** Rows so large that products of three of their determinants are beyond a long. */
    private static void projectiveOfLargeRows() {
        TransformRows x = new TransformRows();
        int[][] large = {{500, -499, 1}, {-498, 3, 500}, {2, 500, 497}, {491, 499, -500}};
        int[] p = new int[8];
        for (int i = 0; i < 4; i++) {
            p[i] = x.point(large[i][0], large[i][1], large[i][2]);
            p[4 + i] = x.point(large[i][1], large[i][2], -large[i][0]);
        }
        CHECKS.mapDue("other places", x, made(x, 7, 0, 0, p), 0, 1, 0, 0, 0, 1, -1, 0, 0);
        due("NO ROOM", made(x, 7, 0, 0, p[0], p[1], p[2], p[3], p[5], p[4], p[6], p[7]), ROOM);
        int o = x.point(0, 0, 1);
        int e = x.point(1, 0, 1);
        int n = x.point(0, 1, 1);
        int m = x.point(1, 1, 1);
        due("NO ROOM", made(x, 7, 0, 0, p[0], p[1], p[2], p[3], o, e, n, m), ROOM);
        due("NO ROOM", made(x, 7, 0, 0, o, e, n, m, p[0], p[1], p[2], p[3]), ROOM);
        due("one MAP", x.count(1), 1);
        due("THE ROW is empty", x.count(2), 0);
    }

    private static void anyOnes() {
        TransformRows x = new TransformRows();
        int a = x.line(0, -1, 0);
        int b = x.line(4, 6, 500);
        int c = x.line(3, 0, -7);
        CHECKS.mapDue("the LEAST rows", x, made(x, 8, 0, 0, a, b, c), 0, 1, 0, 2, 3, 250, 3, 0, -7);
        CHECKS.mapDue("in order", x, made(x, 8, 0, 0, c, a, b), 3, 0, -7, 0, 1, 0, 2, 3, 250);
        due("the like one", made(x, 8, 1, 1, a, b, c), 0);
        due("one twice", made(x, 8, 0, 0, a, b, a), WRONG);
        due("determinant 0", made(x, 8, 0, 0, a, b, x.line(2, 4, 250)), WRONG);
        due("a POINT", made(x, 8, 0, 0, a, b, x.point(0, 0, 1)), WRONG);
        due("two", made(x, 8, 0, 0, a, b), WRONG);
        due("four", made(x, 8, 0, 0, a, b, c, c), WRONG);
        due("two MAPS", x.count(1), 2);
    }

    private static void room() {
        TransformRows x = new TransformRows();
        for (int k = 0; k < 40; k++) {
            due("MAP " + k, Checks.shift(x, k, 0), k);
        }
        due("40 MAPS", Checks.shift(x, 40, 0), ROOM);
        due("THE ROW is empty", x.count(2), 0);
        due("40 MAPS", x.count(1), 40);
        due("40 MAPS, the like one", Checks.shift(x, 39, 0), 39);
        due("40 MAPS, WRONG comes first", made(x, 0, 0, 0, x.point(1, 0, 0)), WRONG);
        due("40 MAPS, OUTSIDE comes first", x.make(9, 0, 0), OUTSIDE);
        due("then", x.then(39, 1), ROOM);
        due("then, the like one", x.then(20, 19), 39);
        due("back", x.back(1), ROOM);
        due("back, the like one", x.back(0), 0);
        due("no MAP 40", x.kind(40), UNKNOWN);
    }
}
