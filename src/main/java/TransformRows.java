/**
 * Maps of the plane in whole numbers. A MAP is a table of three rows of three NUMBERS that count up
 * to a factor; OBJECTS are POINTS, LINES and CONICS, held in the same way.
 *
 * <p>All rows to work in are made once, with the object: no call makes anything new.
 */
public final class TransformRows {
    public static final int UNKNOWN = -1, OUTSIDE = -2, WRONG = -3, ROOM = -4;

    private static final int POINT = 0, LINE = 1, CONIC = 2, MAP = 3;
    private static final int LARGEST = 500;
    private static final int MOST_OBJECTS = 60, MOST_MAPS = 40, MOST_GIVEN = 8;
    private static final int MOST_SEEDS = 4, MOST_ELEMENTS = 48, MOST_TIMES = 60;
    private static final int LAST_KIND = 8, LARGEST_FACTOR = 1000;
    private static final int CELLS = 9;
    private static final int ASKS_SORT = 6;
    private static final int RAISE = 1000;

    private final Shelf objects = new Shelf(MOST_OBJECTS);
    private final Shelf maps = new Shelf(MOST_MAPS);
    private final Lineup row = new Lineup(MOST_GIVEN);
    private final Lineup seeds = new Lineup(MOST_SEEDS);
    private final Maker maker = new Maker();
    private final Images images = new Images();
    private final Owns owns = new Owns();
    private final Closure closure = new Closure();
    private final long[] triple = new long[3];
    private final long[] sextuple = new long[6];
    private final long[] first = new long[CELLS];
    private final long[] second = new long[CELLS];
    private final long[] result = new long[CELLS];
    private final long[] p3 = new long[3];
    private final long[] q3 = new long[3];
    private final long[] r3 = new long[3];
    private final long[] s3 = new long[3];

    public TransformRows() {
    }

    // ---- objects

    public int point(int x, int y, int w) {
        return keepTriple(POINT, x, y, w);
    }

    public int line(int a, int b, int c) {
        return keepTriple(LINE, a, b, c);
    }

    public int conic(int a, int b, int c, int d, int e, int f) {
        sextuple[0] = a;
        sextuple[1] = b;
        sextuple[2] = c;
        sextuple[3] = d;
        sextuple[4] = e;
        sextuple[5] = f;
        return keepGiven(CONIC, sextuple);
    }

    public int number(int object, int i) {
        int sort = objects.sortOf(object);
        if (sort == UNKNOWN) {
            return UNKNOWN;
        }
        if (i == ASKS_SORT) {
            return sort;
        }
        int width = sort == CONIC ? 6 : 3;
        if (i < 0 || i >= width) {
            return OUTSIDE;
        }
        return objects.cell(object, i) + RAISE;
    }

    public int join(int p, int q) {
        int sort = objects.sortOf(p);
        if (sort != POINT && sort != LINE || objects.sortOf(q) != sort) {
            return UNKNOWN;
        }
        // Each row is held once, so only one number can stand for one OBJECT.
        if (p == q) {
            return WRONG;
        }
        objects.load(p, p3);
        objects.load(q, q3);
        Plane.wedge(p3, q3, triple);
        return keepObject(sort == POINT ? LINE : POINT, triple);
    }

    public int on(int p, int object) {
        int sort = objects.sortOf(object);
        if (objects.sortOf(p) != POINT || sort != LINE && sort != CONIC) {
            return UNKNOWN;
        }
        objects.load(p, p3);
        if (sort == LINE) {
            objects.load(object, q3);
            return Plane.dot(p3, q3) == 0 ? 1 : 0;
        }
        objects.load(object, sextuple);
        return Plane.conicAt(sextuple, p3) == 0 ? 1 : 0;
    }

    public int shape(int conic) {
        if (objects.sortOf(conic) != CONIC) {
            return UNKNOWN;
        }
        objects.load(conic, sextuple);
        return Plane.shapeOf(sextuple, first);
    }

    public long cross(int p, int q, int r, int s, int side) {
        boolean allPoints = objects.sortOf(p) == POINT && objects.sortOf(q) == POINT
                && objects.sortOf(r) == POINT && objects.sortOf(s) == POINT;
        if (!allPoints || side < 0 || side > 1 || r == s || q == r || q == s) {
            return Long.MIN_VALUE;
        }
        objects.load(p, p3);
        objects.load(q, q3);
        objects.load(r, r3);
        objects.load(s, s3);
        Plane.wedge(r3, s3, triple);
        if (Plane.dot(p3, triple) != 0 || Plane.dot(q3, triple) != 0) {
            return Long.MIN_VALUE;
        }
        return crossRatio(side);
    }

    // ---- maps

    public int give(int object) {
        return objects.has(object) ? row.append(object) : UNKNOWN;
    }

    public int make(int kind, int u, int v) {
        if (kind < 0 || kind > LAST_KIND || beyond(u, LARGEST_FACTOR) || beyond(v, LARGEST_FACTOR)) {
            return OUTSIDE;
        }
        maker.take(objects, row);
        row.clear();
        int answer = maker.build(kind, u, v, result);
        return answer < 0 ? answer : keepMap(result);
    }

    public int count(int what) {
        switch (what) {
            case 0:
                return objects.size();
            case 1:
                return maps.size();
            case 2:
                return row.size();
            default:
                return OUTSIDE;
        }
    }

    public int entry(int map, int i) {
        if (!maps.has(map)) {
            return UNKNOWN;
        }
        return i < 0 || i >= CELLS ? OUTSIDE : maps.cell(map, i) + RAISE;
    }

    public int then(int a, int b) {
        if (!maps.has(a) || !maps.has(b)) {
            return UNKNOWN;
        }
        maps.load(a, first);
        maps.load(b, second);
        Tables.product(second, first, result);
        return keepMap(result);
    }

    public int back(int map) {
        if (!maps.has(map)) {
            return UNKNOWN;
        }
        maps.load(map, first);
        Tables.adjugate(first, result);
        return keepMap(result);
    }

    public int image(int map, int object) {
        int sort = objects.sortOf(object);
        if (!maps.has(map) || sort == UNKNOWN) {
            return UNKNOWN;
        }
        maps.load(map, first);
        if (sort == CONIC) {
            objects.load(object, sextuple);
            images.ofConic(first, sextuple);
            return keepObject(CONIC, sextuple);
        }
        objects.load(object, p3);
        if (sort == POINT) {
            Tables.apply(first, p3, triple);
        } else {
            images.ofLine(first, p3, triple);
        }
        return keepObject(sort, triple);
    }

    public int kind(int map) {
        if (!maps.has(map)) {
            return UNKNOWN;
        }
        maps.load(map, first);
        return Kinds.keepsFar(first) ? Kinds.ofAffine(first) : Kinds.ofProjective(first, owns);
    }

    public long own(int map, int k) {
        if (!maps.has(map)) {
            return Long.MIN_VALUE;
        }
        maps.load(map, first);
        owns.find(first);
        return owns.has(k) ? owns.value(k) : Long.MIN_VALUE;
    }

    public int fixed(int map, int k) {
        if (!maps.has(map)) {
            return UNKNOWN;
        }
        maps.load(map, first);
        owns.find(first);
        if (!owns.has(k)) {
            return OUTSIDE;
        }
        int freedom = owns.fixedBy(first, owns.value(k));
        if (freedom == Owns.ALL) {
            return WRONG;
        }
        return keepObject(freedom == Owns.ONE_LINE ? LINE : POINT, owns.fixedRow);
    }

    public int order(int map, int most) {
        if (!maps.has(map)) {
            return UNKNOWN;
        }
        if (most < 1 || most > MOST_TIMES) {
            return OUTSIDE;
        }
        maps.load(map, first);
        maps.load(map, second);
        for (int times = 1; times <= most; times++) {
            if (Kinds.allStays(second)) {
                return times;
            }
            Tables.product(first, second, result);
            if (!Least.reduce(result, LARGEST)) {
                return 0;
            }
            System.arraycopy(result, 0, second, 0, CELLS);
        }
        return 0;
    }

    // ---- groups

    public int seed(int map) {
        return maps.has(map) ? seeds.append(map) : UNKNOWN;
    }

    public int group(int most) {
        if (most < 1 || most > MOST_ELEMENTS) {
            return OUTSIDE;
        }
        int answer = closure.grow(maps, seeds, most);
        seeds.clear();
        return answer;
    }

    public int element(int k, int i) {
        boolean there = closure.elements.has(k) && i >= 0 && i < CELLS;
        return there ? closure.elements.cell(k, i) + RAISE : OUTSIDE;
    }

    public int among(int map) {
        if (!maps.has(map)) {
            return UNKNOWN;
        }
        maps.load(map, first);
        int found = closure.elements.find(MAP, first);
        return found < 0 ? WRONG : found;
    }

    // ---- inside

    private static boolean beyond(long value, long most) {
        return value < -most || value > most;
    }

    private int keepTriple(int sort, int x, int y, int z) {
        triple[0] = x;
        triple[1] = y;
        triple[2] = z;
        return keepGiven(sort, triple);
    }

    private int keepGiven(int sort, long[] numbers) {
        boolean allZero = true;
        for (int i = 0; i < numbers.length; i++) {
            if (beyond(numbers[i], LARGEST)) {
                return OUTSIDE;
            }
            allZero = allZero && numbers[i] == 0;
        }
        return allZero ? WRONG : keepObject(sort, numbers);
    }

    private int keepObject(int sort, long[] numbers) {
        return Least.reduce(numbers, LARGEST) ? objects.keep(sort, numbers) : ROOM;
    }

    private int keepMap(long[] table) {
        return Least.reduce(table, LARGEST) ? maps.keep(MAP, table) : ROOM;
    }

    /** Of p3, q3, r3, s3; triple holds the LINE of r3 and s3, so it is not all 0. */
    private long crossRatio(int side) {
        int i = triple[0] != 0 ? 0 : triple[1] != 0 ? 1 : 2;
        // All four shares come out times triple[i], which the ratio cancels.
        long qOfR = Plane.wedgeCell(q3, s3, i);
        long qOfS = Plane.wedgeCell(r3, q3, i);
        long pOfR = Plane.wedgeCell(p3, s3, i);
        long pOfS = Plane.wedgeCell(r3, p3, i);
        long above = pOfS * qOfR;
        long below = pOfR * qOfS;
        long divisor = Least.divisor(above, below);
        if (below == 0 || divisor == 0) {
            return side == 0 ? 1 : 0;
        }
        long signed = below < 0 ? -divisor : divisor;
        return side == 0 ? above / signed : below / signed;
    }

    /** NUMBERS brought to their LEAST row. */
    private static final class Least {
        /** Euclid's steps on two longs are 91 at most. */
        private static final int MOST_STEPS = 128;

        static long divisor(long a, long b) {
            long greater = Math.abs(a);
            long rest = Math.abs(b);
            for (int step = 0; step < MOST_STEPS && rest != 0; step++) {
                long next = greater % rest;
                greater = rest;
                rest = next;
            }
            return greater;
        }

        /** Makes the row LEAST; whether each of it is at most so large then. */
        static boolean reduce(long[] numbers, long most) {
            long common = 0;
            long leading = 0;
            for (int i = 0; i < numbers.length; i++) {
                common = divisor(common, numbers[i]);
                leading = leading == 0 ? numbers[i] : leading;
            }
            if (common == 0) {
                return false;
            }
            long signed = leading < 0 ? -common : common;
            boolean fits = true;
            for (int i = 0; i < numbers.length; i++) {
                numbers[i] = numbers[i] / signed;
                fits = fits && !beyond(numbers[i], most);
            }
            return fits;
        }
    }

    /** POINTS and LINES as rows of three, CONICS as rows of six. */
    private static final class Plane {
        static long dot(long[] u, long[] v) {
            return u[0] * v[0] + u[1] * v[1] + u[2] * v[2];
        }

        static void wedge(long[] u, long[] v, long[] out) {
            out[0] = wedgeCell(u, v, 0);
            out[1] = wedgeCell(u, v, 1);
            out[2] = wedgeCell(u, v, 2);
        }

        static long wedgeCell(long[] u, long[] v, int i) {
            switch (i) {
                case 0:
                    return u[1] * v[2] - u[2] * v[1];
                case 1:
                    return u[2] * v[0] - u[0] * v[2];
                default:
                    return u[0] * v[1] - u[1] * v[0];
            }
        }

        static long conicAt(long[] conic, long[] p) {
            return conic[0] * p[0] * p[0] + conic[1] * p[0] * p[1] + conic[2] * p[1] * p[1]
                    + conic[3] * p[0] * p[2] + conic[4] * p[1] * p[2] + conic[5] * p[2] * p[2];
        }

        /** The even table (2 a, b, d; b, 2 c, e; d, e, 2 f) of a CONIC. */
        static void evenTable(long[] conic, long[] out) {
            Tables.putRow(out, 0, 2 * conic[0], conic[1], conic[3]);
            Tables.putRow(out, 1, conic[1], 2 * conic[2], conic[4]);
            Tables.putRow(out, 2, conic[3], conic[4], 2 * conic[5]);
        }

        static int shapeOf(long[] conic, long[] work) {
            evenTable(conic, work);
            long whole = Tables.determinant(work);
            long bend = 4 * conic[0] * conic[2] - conic[1] * conic[1];
            if (whole == 0) {
                return 0;
            }
            if (bend > 0 && conic[0] * whole > 0) {
                return 1;
            }
            if (conic[0] == conic[2] && conic[1] == 0) {
                return 2;
            }
            return bend > 0 ? 3 : bend == 0 ? 4 : 5;
        }
    }

    /** Tables of three by three, row by row. */
    private static final class Tables {
        static void putRow(long[] out, int row, long a, long b, long c) {
            if (row < 0 || row > 2) {
                return;
            }
            out[3 * row] = a;
            out[3 * row + 1] = b;
            out[3 * row + 2] = c;
        }

        static void apply(long[] table, long[] p, long[] out) {
            for (int i = 0; i < 3; i++) {
                out[i] = table[3 * i] * p[0] + table[3 * i + 1] * p[1] + table[3 * i + 2] * p[2];
            }
        }

        static void product(long[] left, long[] right, long[] out) {
            for (int i = 0; i < 3; i++) {
                for (int j = 0; j < 3; j++) {
                    out[3 * i + j] = left[3 * i] * right[j] + left[3 * i + 1] * right[3 + j]
                            + left[3 * i + 2] * right[6 + j];
                }
            }
        }

        static void transpose(long[] table, long[] out) {
            for (int i = 0; i < 3; i++) {
                putRow(out, i, table[i], table[3 + i], table[6 + i]);
            }
        }

        /** What turns a table back, but for the factor of its determinant. */
        static void adjugate(long[] t, long[] out) {
            putRow(out, 0, t[4] * t[8] - t[5] * t[7], t[2] * t[7] - t[1] * t[8], t[1] * t[5] - t[2] * t[4]);
            putRow(out, 1, t[5] * t[6] - t[3] * t[8], t[0] * t[8] - t[2] * t[6], t[2] * t[3] - t[0] * t[5]);
            putRow(out, 2, t[3] * t[7] - t[4] * t[6], t[1] * t[6] - t[0] * t[7], t[0] * t[4] - t[1] * t[3]);
        }

        static long determinant(long[] t) {
            return t[0] * (t[4] * t[8] - t[5] * t[7]) + t[1] * (t[5] * t[6] - t[3] * t[8])
                    + t[2] * (t[3] * t[7] - t[4] * t[6]);
        }

        static long trace(long[] t) {
            return t[0] + t[4] + t[8];
        }
    }

    /** LEAST rows, each of a sort once, numbered from 0. */
    private static final class Shelf {
        private static final int SPACE = 60;
        private final int[] sorts = new int[SPACE];
        private final int[] cells = new int[SPACE * CELLS];
        private final int most;
        private int size;

        Shelf(int most) {
            this.most = Math.min(most, SPACE);
        }

        int size() {
            return size;
        }

        boolean has(int k) {
            return k >= 0 && k < size;
        }

        int sortOf(int k) {
            return has(k) ? sorts[k] : UNKNOWN;
        }

        int cell(int k, int i) {
            return k >= 0 && k < size && i >= 0 && i < CELLS ? cells[k * CELLS + i] : 0;
        }

        void load(int k, long[] out) {
            for (int i = 0; i < out.length; i++) {
                out[i] = cell(k, i);
            }
        }

        int find(int sort, long[] numbers) {
            for (int k = 0; k < size; k++) {
                if (sorts[k] == sort && isAt(k, numbers)) {
                    return k;
                }
            }
            return UNKNOWN;
        }

        /** The number of the row: that of the like one, if it is there. */
        int keep(int sort, long[] numbers) {
            int like = find(sort, numbers);
            if (like >= 0) {
                return like;
            }
            if (size >= most) {
                return ROOM;
            }
            sorts[size] = sort;
            for (int i = 0; i < numbers.length && i < CELLS; i++) {
                cells[size * CELLS + i] = (int) numbers[i];
            }
            size++;
            return size - 1;
        }

        void clear() {
            size = 0;
        }

        private boolean isAt(int k, long[] numbers) {
            for (int i = 0; i < numbers.length; i++) {
                if (cell(k, i) != numbers[i]) {
                    return false;
                }
            }
            return true;
        }
    }

    /** Numbers of OBJECTS or MAPS in the order in which they came. */
    private static final class Lineup {
        private static final int SPACE = 8;
        private final int[] members = new int[SPACE];
        private final int most;
        private int size;

        Lineup(int most) {
            this.most = Math.min(most, SPACE);
        }

        int size() {
            return size;
        }

        int member(int k) {
            return k >= 0 && k < size ? members[k] : UNKNOWN;
        }

        /** How many there are then. */
        int append(int member) {
            if (size >= most) {
                return ROOM;
            }
            members[size] = member;
            size++;
            return size;
        }

        void clear() {
            size = 0;
        }
    }

    /** Makes tables of the kinds 0 .. 8 from THE ROW. */
    private static final class Maker {
        private static final int DONE = 0;
        /** A table that has room takes no POINT's row to more than so many times another one. */
        private static final long LARGEST_WEIGHT = 3L * LARGEST * LARGEST;
        private final int[] sorts = new int[MOST_GIVEN];
        private final long[][] given = new long[MOST_GIVEN][3];
        private final long[][] fromSides = new long[3][3];
        private final long[][] toSides = new long[3][3];
        private final long[] weights = new long[3];
        private final long[] pair = new long[2];
        private int size;

        void take(Shelf objects, Lineup row) {
            size = Math.min(row.size(), MOST_GIVEN);
            for (int k = 0; k < size; k++) {
                sorts[k] = objects.sortOf(row.member(k));
                objects.load(row.member(k), given[k]);
            }
        }

        /** DONE, WRONG or ROOM; the table need not be LEAST yet. */
        int build(int kind, long u, long v, long[] out) {
            switch (kind) {
                case 0:
                    return buildShift(out);
                case 1:
                    return buildTurn(u, v, out);
                case 2:
                    return buildGlide(0, 1, out);
                case 3:
                    return buildStretch(u, v, out);
                case 4:
                    return buildGlide(u, v, out);
                case 5:
                    return buildLikeness(out);
                case 6:
                    return buildAffine(out);
                case 7:
                    return buildProjective(out);
                case 8:
                    return buildAny(out);
                default:
                    return WRONG;
            }
        }

        private int buildShift(long[] out) {
            if (!areNear(1)) {
                return WRONG;
            }
            long[] p = given[0];
            putLikeness(p[2], 0, p[0], p[1], p[2], out);
            return DONE;
        }

        private int buildTurn(long u, long v, long[] out) {
            if (!areNear(1) || u == 0 && v == 0) {
                return WRONG;
            }
            long[] p = given[0];
            long whole = u * u + v * v;
            long cosine = u * u - v * v;
            long sine = 2 * u * v;
            long shiftX = (whole - cosine) * p[0] + sine * p[1];
            long shiftY = (whole - cosine) * p[1] - sine * p[0];
            putLikeness(cosine * p[2], sine * p[2], shiftX, shiftY, whole * p[2], out);
            return DONE;
        }

        private int buildStretch(long u, long v, long[] out) {
            if (!areNear(1) || u == 0 || v == 0) {
                return WRONG;
            }
            long[] p = given[0];
            putLikeness(u * p[2], 0, (v - u) * p[0], (v - u) * p[1], v * p[2], out);
            return DONE;
        }

        /** MIRROR is a GLIDE by 0 / 1. */
        private int buildGlide(long u, long v, long[] out) {
            if (!areAll(LINE, 1) || v == 0) {
                return WRONG;
            }
            long a = given[0][0];
            long b = given[0][1];
            long c = given[0][2];
            long square = a * a + b * b;
            if (square == 0) {
                return WRONG;
            }
            long both = -2 * a * b * v;
            Tables.putRow(out, 0, (b * b - a * a) * v, both, -2 * a * c * v - b * u * square);
            Tables.putRow(out, 1, both, (a * a - b * b) * v, -2 * b * c * v + a * u * square);
            Tables.putRow(out, 2, 0, 0, square * v);
            return DONE;
        }

        private int buildLikeness(long[] out) {
            if (!areNear(4)) {
                return WRONG;
            }
            long[] p = given[0];
            long[] q = given[1];
            long[] r = given[2];
            long[] s = given[3];
            long fromX = q[0] * p[2] - p[0] * q[2];
            long fromY = q[1] * p[2] - p[1] * q[2];
            long toX = s[0] * r[2] - r[0] * s[2];
            long toY = s[1] * r[2] - r[1] * s[2];
            if (fromX == 0 && fromY == 0 || toX == 0 && toY == 0) {
                return WRONG;
            }
            // The quotient of the two ways, as of complex numbers, without its divisor.
            long real = toX * fromX + toY * fromY;
            long other = toY * fromX - toX * fromY;
            long square = fromX * fromX + fromY * fromY;
            long shiftX = r[0] * square * s[2] - q[2] * (real * p[0] - other * p[1]);
            long shiftY = r[1] * square * s[2] - q[2] * (real * p[1] + other * p[0]);
            long factor = p[2] * q[2];
            putLikeness(real * factor, other * factor, shiftX, shiftY, square * r[2] * s[2], out);
            return DONE;
        }

        private int buildAffine(long[] out) {
            if (!areNear(6) || !findSides(0, fromSides) || !findSides(3, toSides)) {
                return WRONG;
            }
            for (int i = 0; i < 3; i++) {
                int j = (i + 1) % 3;
                int k = (i + 2) % 3;
                weights[i] = given[i][2] * given[3 + j][2] * given[3 + k][2];
            }
            putWeighted(3, out);
            return DONE;
        }

        private int buildProjective(long[] out) {
            if (!areAll(POINT, 8) || !findSides(0, fromSides) || !findSides(4, toSides)) {
                return WRONG;
            }
            for (int i = 0; i < 3; i++) {
                if (Plane.dot(fromSides[i], given[3]) == 0 || Plane.dot(toSides[i], given[7]) == 0) {
                    return WRONG;
                }
            }
            if (!findWeights()) {
                return ROOM;
            }
            putWeighted(4, out);
            return DONE;
        }

        private int buildAny(long[] out) {
            if (!areAll(LINE, 3)) {
                return WRONG;
            }
            for (int i = 0; i < 3; i++) {
                Tables.putRow(out, i, given[i][0], given[i][1], given[i][2]);
            }
            return Tables.determinant(out) == 0 ? WRONG : DONE;
        }

        private boolean areAll(int sort, int many) {
            for (int k = 0; k < size && k < MOST_GIVEN; k++) {
                if (sorts[k] != sort) {
                    return false;
                }
            }
            return size == many;
        }

        private boolean areNear(int many) {
            for (int k = 0; k < size && k < MOST_GIVEN; k++) {
                if (given[k][2] == 0) {
                    return false;
                }
            }
            return areAll(POINT, many);
        }

        private static void putLikeness(long cosine, long sine, long x, long y, long w, long[] out) {
            Tables.putRow(out, 0, cosine, -sine, x);
            Tables.putRow(out, 1, sine, cosine, y);
            Tables.putRow(out, 2, 0, 0, w);
        }

        /** The sides of three POINTS, each across from its POINT; whether they are on no one LINE. */
        private boolean findSides(int start, long[][] sides) {
            if (start < 0 || start + 2 >= MOST_GIVEN) {
                return false;
            }
            Plane.wedge(given[start + 1], given[start + 2], sides[0]);
            Plane.wedge(given[start + 2], given[start], sides[1]);
            Plane.wedge(given[start], given[start + 1], sides[2]);
            return Plane.dot(sides[0], given[start]) != 0;
        }

        /**
         * How often each of the first three POINTS' rows counts, so that the fourth goes to the
         * fourth; false if one is above LARGEST_WEIGHT: then there is NO ROOM for the table. Telling
         * this early, pair by pair, keeps all products within a long.
         */
        private boolean findWeights() {
            long from0 = Plane.dot(fromSides[0], given[3]);
            long from1 = Plane.dot(fromSides[1], given[3]);
            long from2 = Plane.dot(fromSides[2], given[3]);
            long to0 = Plane.dot(toSides[0], given[7]);
            long to1 = Plane.dot(toSides[1], given[7]);
            long to2 = Plane.dot(toSides[2], given[7]);
            pair[0] = to0 * from1;
            pair[1] = to1 * from0;
            if (!Least.reduce(pair, LARGEST_WEIGHT)) {
                return false;
            }
            long zeroth = pair[0];
            long middle = pair[1];
            pair[0] = to1 * from2;
            pair[1] = to2 * from1;
            if (!Least.reduce(pair, LARGEST_WEIGHT)) {
                return false;
            }
            weights[0] = zeroth * pair[0];
            weights[1] = middle * pair[0];
            weights[2] = middle * pair[1];
            return Least.reduce(weights, LARGEST_WEIGHT);
        }

        /** The table that takes POINT i to its weight times the given one at start + i. */
        private void putWeighted(int start, long[] out) {
            if (start < 0 || start + 2 >= MOST_GIVEN) {
                return;
            }
            for (int i = 0; i < 3; i++) {
                for (int j = 0; j < 3; j++) {
                    long sum = 0;
                    for (int k = 0; k < 3; k++) {
                        sum += weights[k] * given[start + k][i] * fromSides[k][j];
                    }
                    out[3 * i + j] = sum;
                }
            }
        }
    }

    /** What a table does to LINES and CONICS: these go by the table that turns it back. */
    private static final class Images {
        private final long[] inverse = new long[CELLS];
        private final long[] turned = new long[CELLS];
        private final long[] form = new long[CELLS];
        private final long[] half = new long[CELLS];

        void ofLine(long[] table, long[] line, long[] out) {
            Tables.adjugate(table, inverse);
            Tables.transpose(inverse, turned);
            Tables.apply(turned, line, out);
        }

        /** Changes the CONIC's row to that of its image. */
        void ofConic(long[] table, long[] conic) {
            Tables.adjugate(table, inverse);
            Tables.transpose(inverse, turned);
            Plane.evenTable(conic, form);
            Tables.product(form, inverse, half);
            Tables.product(turned, half, form);
            conic[0] = form[0];
            conic[1] = 2 * form[1];
            conic[2] = form[4];
            conic[3] = 2 * form[2];
            conic[4] = 2 * form[5];
            conic[5] = form[8];
        }
    }

    /** OWN VALUES of a table, rising, and what is FIXED by them. */
    private static final class Owns {
        private static final int ONE_POINT = 0, ONE_LINE = 1, ALL = 2;
        private static final long LARGEST_VALUE = 3L * LARGEST;
        private final long[] values = new long[3];
        private final long[] less = new long[CELLS];
        private final long[] minors = new long[CELLS];
        private final long[] columns = new long[CELLS];
        private final long[] fixedRow = new long[3];
        private int size;

        boolean has(int k) {
            return k >= 0 && k < size;
        }

        long value(int k) {
            return has(k) && k < values.length ? values[k] : 0;
        }

        void find(long[] table) {
            size = 0;
            Tables.adjugate(table, minors);
            long trace = Tables.trace(table);
            long middle = Tables.trace(minors);
            long whole = Tables.determinant(table);
            long most = Math.min(widestRow(table), LARGEST_VALUE);
            for (long z = -most; z <= most && size < values.length; z++) {
                if (((z - trace) * z + middle) * z == whole) {
                    values[size] = z;
                    size++;
                }
            }
        }

        /** How much is FIXED by a value; the POINT or the LINE, if it is one, is put into fixedRow. */
        int fixedBy(long[] table, long value) {
            System.arraycopy(table, 0, less, 0, CELLS);
            less[0] -= value;
            less[4] -= value;
            less[8] -= value;
            // The lessened table takes each column of its minors to nothing.
            Tables.adjugate(less, minors);
            Tables.transpose(minors, columns);
            if (takeRow(columns)) {
                return ONE_POINT;
            }
            return takeRow(less) ? ONE_LINE : ALL;
        }

        /** No OWN VALUE is larger than the sizes in one of the rows together. */
        private static long widestRow(long[] t) {
            long widest = 0;
            for (int i = 0; i < 3; i++) {
                long width = Math.abs(t[3 * i]) + Math.abs(t[3 * i + 1]) + Math.abs(t[3 * i + 2]);
                widest = Math.max(widest, width);
            }
            return widest;
        }

        /** The first row of the table that is not all 0, if there is one. */
        private boolean takeRow(long[] t) {
            for (int i = 0; i < 3; i++) {
                if (t[3 * i] != 0 || t[3 * i + 1] != 0 || t[3 * i + 2] != 0) {
                    System.arraycopy(t, 3 * i, fixedRow, 0, 3);
                    return true;
                }
            }
            return false;
        }
    }

    /** Tells the KINDS apart, by their numbers in the document. */
    private static final class Kinds {
        static boolean allStays(long[] t) {
            boolean onlyDiagonal = t[1] == 0 && t[2] == 0 && t[3] == 0 && t[5] == 0
                    && t[6] == 0 && t[7] == 0;
            return onlyDiagonal && t[0] == t[4] && t[4] == t[8];
        }

        static boolean keepsFar(long[] t) {
            return t[6] == 0 && t[7] == 0;
        }

        static int ofAffine(long[] t) {
            if (t[0] == t[4] && t[1] == -t[3]) {
                return ofLikeness(t);
            }
            if (t[0] == -t[4] && t[1] == t[3]) {
                return ofTurnedOver(t);
            }
            long area = t[0] * t[4] - t[1] * t[3];
            long unit = t[8] * t[8];
            if (keepsLineOfPoints(t)) {
                return area == unit ? 9 : 10;
            }
            return Math.abs(area) == unit ? 11 : 12;
        }

        private static int ofLikeness(long[] t) {
            if (t[1] == 0 && t[0] == t[8]) {
                return allStays(t) ? 0 : 1;
            }
            if (t[1] == 0) {
                return t[0] == -t[8] ? 2 : 4;
            }
            return keepsSizes(t) ? 3 : 5;
        }

        private static int ofTurnedOver(long[] t) {
            if (!keepsSizes(t)) {
                return 8;
            }
            return keepsLineOfPoints(t) ? 6 : 7;
        }

        /** Of a table that keeps angles. */
        private static boolean keepsSizes(long[] t) {
            return t[0] * t[0] + t[1] * t[1] == t[8] * t[8];
        }

        /**
         * Whether each POINT of a LINE that is not FAR stays, for a table that keeps FAR POINTS FAR
         * and is no shift. Such POINTS have the last diagonal cell as OWN VALUE, so what is left of
         * the upper two rows without it must be one LINE.
         */
        private static boolean keepsLineOfPoints(long[] t) {
            long a = t[0] - t[8];
            long e = t[4] - t[8];
            return a * e == t[1] * t[3] && a * t[5] == t[2] * t[3] && t[1] * t[5] == t[2] * e;
        }

        /**
         * A value that fixes all of a LINE is there twice, so the trace tells the third value: it is
         * the same when the CENTRE lies on the LINE, and the opposite one when twice is all.
         */
        static int ofProjective(long[] t, Owns owns) {
            owns.find(t);
            for (int k = 0; k < 3; k++) {
                if (owns.has(k) && owns.fixedBy(t, owns.value(k)) == Owns.ONE_LINE) {
                    long third = Tables.trace(t) - 2 * owns.value(k);
                    return third == owns.value(k) ? 13 : third == -owns.value(k) ? 14 : 15;
                }
            }
            return 16;
        }
    }

    /** THE GROUP that THE SEEDS make. */
    private static final class Closure {
        private final Shelf elements = new Shelf(MOST_ELEMENTS);
        private final long[] before = new long[CELLS];
        private final long[] after = new long[CELLS];
        private final long[] both = new long[CELLS];

        Closure() {
            restart();
        }

        /** How many there are; 0: there would be more; or ROOM. */
        int grow(Shelf maps, Lineup seeds, int most) {
            restart();
            for (int k = 0; k < MOST_ELEMENTS && k < elements.size(); k++) {
                for (int s = 0; s < seeds.size(); s++) {
                    elements.load(k, before);
                    maps.load(seeds.member(s), after);
                    Tables.product(after, before, both);
                    if (!Least.reduce(both, LARGEST)) {
                        return ROOM;
                    }
                    if (elements.find(MAP, both) < 0 && elements.size() >= most) {
                        return 0;
                    }
                    elements.keep(MAP, both);
                }
            }
            return elements.size();
        }

        private void restart() {
            elements.clear();
            Tables.putRow(both, 0, 1, 0, 0);
            Tables.putRow(both, 1, 0, 1, 0);
            Tables.putRow(both, 2, 0, 0, 1);
            elements.keep(MAP, both);
        }
    }
}
