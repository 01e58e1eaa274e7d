import java.math.BigInteger;
import java.util.ArrayList;
import java.util.Arrays;
import java.util.List;

/**
 * A second TransformRows, slow and plain, for comparison. It finds maps by solving equations over
 * whole numbers of any size, kinds by looking at what becomes of a few points, and so on.
 */
final class Model {
    private static final int UNKNOWN = -1, OUTSIDE = -2, WRONG = -3, ROOM = -4;
    private static final BigInteger ZERO = BigInteger.ZERO, ONE = BigInteger.ONE;

    private final List<BigInteger[]> objects = new ArrayList<>();
    private final List<Integer> sorts = new ArrayList<>();
    private final List<BigInteger[]> maps = new ArrayList<>();
    private final List<Integer> row = new ArrayList<>();
    private final List<Integer> seeds = new ArrayList<>();
    private List<BigInteger[]> group = new ArrayList<>(List.<BigInteger[]>of(identity()));

    int point(int x, int y, int w) {
        return enter(0, x, y, w);
    }

    int line(int a, int b, int c) {
        return enter(1, a, b, c);
    }

    int conic(int a, int b, int c, int d, int e, int f) {
        return enter(2, a, b, c, d, e, f);
    }

    int number(int object, int i) {
        if (sort(object) < 0) {
            return UNKNOWN;
        }
        if (i == 6) {
            return sort(object);
        }
        BigInteger[] numbers = objects.get(object);
        return i < 0 || i >= numbers.length ? OUTSIDE : numbers[i].intValueExact() + 1000;
    }

    int join(int p, int q) {
        if (sort(p) < 0 || sort(p) > 1 || sort(p) != sort(q)) {
            return UNKNOWN;
        }
        if (p == q) {
            return WRONG;
        }
        List<BigInteger[]> through = kernel(List.of(objects.get(p), objects.get(q)), 3);
        return hold(1 - sort(p), through.get(0));
    }

    int on(int p, int object) {
        if (sort(p) != 0 || sort(object) < 1) {
            return UNKNOWN;
        }
        BigInteger[] at = objects.get(p);
        BigInteger value = sort(object) == 1 ? dot(objects.get(object), at) : form(objects.get(object), at);
        return value.signum() == 0 ? 1 : 0;
    }

    int shape(int conic) {
        if (sort(conic) != 2) {
            return UNKNOWN;
        }
        long[] c = new long[6];
        for (int i = 0; i < 6; i++) {
            c[i] = objects.get(conic)[i].longValueExact();
        }
        long whole = 8 * c[0] * c[2] * c[5] + 2 * c[1] * c[4] * c[3] - 2 * c[2] * c[3] * c[3]
                - 2 * c[0] * c[4] * c[4] - 2 * c[5] * c[1] * c[1];
        long bend = 4 * c[0] * c[2] - c[1] * c[1];
        return whole == 0 ? 0 : bend > 0 && c[0] * whole > 0 ? 1 : c[0] == c[2] && c[1] == 0 ? 2
                : bend > 0 ? 3 : bend == 0 ? 4 : 5;
    }

    long cross(int p, int q, int r, int s, int side) {
        boolean points = sort(p) == 0 && sort(q) == 0 && sort(r) == 0 && sort(s) == 0;
        if (!points || side != 0 && side != 1 || r == s || q == r || q == s) {
            return Long.MIN_VALUE;
        }
        BigInteger[] onQ = shares(q, r, s);
        BigInteger[] onP = shares(p, r, s);
        if (onQ == null || onP == null) {
            return Long.MIN_VALUE;
        }
        BigInteger above = onP[1].multiply(onQ[0]);
        BigInteger below = onP[0].multiply(onQ[1]);
        if (below.signum() == 0) {
            return side == 0 ? 1 : 0;
        }
        BigInteger common = above.gcd(below).multiply(BigInteger.valueOf(below.signum()));
        return (side == 0 ? above : below).divide(common).longValueExact();
    }

    int give(int object) {
        if (sort(object) < 0) {
            return UNKNOWN;
        }
        if (row.size() == 8) {
            return ROOM;
        }
        row.add(object);
        return row.size();
    }

    int make(int kind, int u, int v) {
        if (kind < 0 || kind > 8 || Math.abs((long) u) > 1000 || Math.abs((long) v) > 1000) {
            return OUTSIDE;
        }
        List<Integer> numbers = new ArrayList<>(row);
        row.clear();
        int[] many = {1, 1, 1, 1, 1, 4, 6, 8, 3};
        int wanted = kind == 2 || kind == 4 || kind == 8 ? 1 : 0;
        if (numbers.size() != many[kind]) {
            return WRONG;
        }
        List<BigInteger[]> given = new ArrayList<>();
        for (int k : numbers) {
            if (sort(k) != wanted) {
                return WRONG;
            }
            if (wanted == 0 && kind != 7 && objects.get(k)[2].signum() == 0) {
                return WRONG;
            }
            given.add(objects.get(k));
        }
        BigInteger[] table = table(kind, given, u, v);
        return table == null ? WRONG : holdMap(table);
    }

    int count(int what) {
        int[] all = {objects.size(), maps.size(), row.size()};
        return what < 0 || what > 2 ? OUTSIDE : all[what];
    }

    int entry(int map, int i) {
        return !known(map) ? UNKNOWN : i < 0 || i > 8 ? OUTSIDE : maps.get(map)[i].intValueExact() + 1000;
    }

    int then(int a, int b) {
        return known(a) && known(b) ? holdMap(compose(maps.get(a), maps.get(b))) : UNKNOWN;
    }

    int back(int map) {
        return known(map) ? holdMap(inverse(maps.get(map))) : UNKNOWN;
    }

    int image(int map, int object) {
        if (!known(map) || sort(object) < 0) {
            return UNKNOWN;
        }
        BigInteger[] table = maps.get(map);
        BigInteger[] numbers = objects.get(object);
        if (sort(object) == 0) {
            return hold(0, apply(table, numbers));
        }
        if (sort(object) == 1) {
            List<BigInteger[]> two = kernel(List.<BigInteger[]>of(numbers), 3);
            return hold(1, kernel(List.of(apply(table, two.get(0)), apply(table, two.get(1))), 3).get(0));
        }
        return hold(2, movedForm(numbers, inverse(table)));
    }

    int kind(int map) {
        if (!known(map)) {
            return UNKNOWN;
        }
        BigInteger[] t = maps.get(map);
        return t[6].signum() == 0 && t[7].signum() == 0 ? affineKind(t) : projectiveKind(t);
    }

    long own(int map, int k) {
        if (!known(map)) {
            return Long.MIN_VALUE;
        }
        List<Long> values = owns(maps.get(map));
        return k < 0 || k >= values.size() ? Long.MIN_VALUE : values.get(k);
    }

    int fixed(int map, int k) {
        if (!known(map)) {
            return UNKNOWN;
        }
        List<Long> values = owns(maps.get(map));
        if (k < 0 || k >= values.size()) {
            return OUTSIDE;
        }
        List<BigInteger[]> points = stay(maps.get(map), values.get(k));
        if (points.size() == 3) {
            return WRONG;
        }
        return points.size() == 1 ? hold(0, points.get(0)) : hold(1, kernel(points, 3).get(0));
    }

    int order(int map, int most) {
        if (!known(map)) {
            return UNKNOWN;
        }
        if (most < 1 || most > 60) {
            return OUTSIDE;
        }
        BigInteger[] power = maps.get(map);
        for (int times = 1; times <= most; times++) {
            if (Arrays.equals(power, identity())) {
                return times;
            }
            power = least(compose(power, maps.get(map)));
            if (power == null) {
                return 0;
            }
        }
        return 0;
    }

    int seed(int map) {
        if (!known(map)) {
            return UNKNOWN;
        }
        if (seeds.size() == 4) {
            return ROOM;
        }
        seeds.add(map);
        return seeds.size();
    }

    int group(int most) {
        if (most < 1 || most > 48) {
            return OUTSIDE;
        }
        List<Integer> by = new ArrayList<>(seeds);
        seeds.clear();
        group = new ArrayList<>(List.<BigInteger[]>of(identity()));
        for (int k = 0; k < group.size(); k++) {
            for (int s : by) {
                BigInteger[] next = least(compose(group.get(k), maps.get(s)));
                if (next == null) {
                    return ROOM;
                }
                if (place(group, next) < 0) {
                    if (group.size() == most) {
                        return 0;
                    }
                    group.add(next);
                }
            }
        }
        return group.size();
    }

    int element(int k, int i) {
        boolean there = k >= 0 && k < group.size() && i >= 0 && i < 9;
        return there ? group.get(k)[i].intValueExact() + 1000 : OUTSIDE;
    }

    int among(int map) {
        if (!known(map)) {
            return UNKNOWN;
        }
        int at = place(group, maps.get(map));
        return at < 0 ? WRONG : at;
    }

    // ---- holding

    private int sort(int object) {
        return object < 0 || object >= sorts.size() ? -1 : sorts.get(object);
    }

    private boolean known(int map) {
        return map >= 0 && map < maps.size();
    }

    private int enter(int sort, int... numbers) {
        boolean some = false;
        BigInteger[] big = new BigInteger[numbers.length];
        for (int i = 0; i < numbers.length; i++) {
            if (numbers[i] < -500 || numbers[i] > 500) {
                return OUTSIDE;
            }
            some |= numbers[i] != 0;
            big[i] = BigInteger.valueOf(numbers[i]);
        }
        return some ? hold(sort, big) : WRONG;
    }

    private int hold(int sort, BigInteger[] numbers) {
        BigInteger[] small = least(numbers);
        if (small == null) {
            return ROOM;
        }
        for (int k = 0; k < objects.size(); k++) {
            if (sorts.get(k) == sort && Arrays.equals(objects.get(k), small)) {
                return k;
            }
        }
        if (objects.size() == 60) {
            return ROOM;
        }
        objects.add(small);
        sorts.add(sort);
        return objects.size() - 1;
    }

    private int holdMap(BigInteger[] table) {
        BigInteger[] small = least(table);
        if (small == null) {
            return ROOM;
        }
        int at = place(maps, small);
        if (at >= 0) {
            return at;
        }
        if (maps.size() == 40) {
            return ROOM;
        }
        maps.add(small);
        return maps.size() - 1;
    }

    private static int place(List<BigInteger[]> rows, BigInteger[] one) {
        for (int k = 0; k < rows.size(); k++) {
            if (Arrays.equals(rows.get(k), one)) {
                return k;
            }
        }
        return -1;
    }

    private static BigInteger[] least(BigInteger[] numbers) {
        BigInteger[] small = primitive(numbers);
        for (BigInteger one : small) {
            if (one.abs().compareTo(BigInteger.valueOf(500)) > 0) {
                return null;
            }
        }
        return small;
    }

    private static BigInteger[] primitive(BigInteger[] numbers) {
        BigInteger common = ZERO;
        int sign = 0;
        for (BigInteger one : numbers) {
            common = common.gcd(one);
            sign = sign == 0 ? one.signum() : sign;
        }
        if (common.signum() == 0) {
            throw new IllegalStateException("all are 0");
        }
        BigInteger[] small = new BigInteger[numbers.length];
        for (int i = 0; i < numbers.length; i++) {
            small[i] = numbers[i].divide(common).multiply(BigInteger.valueOf(sign));
        }
        return small;
    }

    // ---- making

    private static BigInteger[] table(int kind, List<BigInteger[]> given, int u, int v) {
        BigInteger[] o = given.get(0);
        switch (kind) {
            case 0:
                return shiftTo(o);
            case 1:
                if (u == 0 && v == 0) {
                    return null;
                }
                return around(o, big(u * u - v * v, -2 * u * v, 0, 2 * u * v, u * u - v * v, 0, 0, 0, u * u + v * v));
            case 2:
                return glide(o, 0, 1);
            case 3:
                return u == 0 || v == 0 ? null : around(o, big(u, 0, 0, 0, u, 0, 0, 0, v));
            case 4:
                return v == 0 ? null : glide(o, u, v);
            case 8:
                return kernel(given, 3).isEmpty() ? concat(given) : null;
            case 5:
                if (Arrays.equals(o, given.get(1)) || Arrays.equals(given.get(2), given.get(3))) {
                    return null;
                }
                return solve(given, likenessForm());
            case 6:
                return generic(given, 3) ? solve(given, affineForm()) : null;
            default:
                return generic(given, 4) ? solve(given, freeForm()) : null;
        }
    }

    private static BigInteger[] concat(List<BigInteger[]> rows) {
        BigInteger[] t = new BigInteger[9];
        for (int i = 0; i < 9; i++) {
            t[i] = rows.get(i / 3)[i % 3];
        }
        return t;
    }

    private static boolean generic(List<BigInteger[]> given, int many) {
        for (int half = 0; half < 2; half++) {
            List<BigInteger[]> part = given.subList(half * many, half * many + many);
            for (int a = 0; a < many; a++) {
                for (int b = a + 1; b < many; b++) {
                    for (int c = b + 1; c < many; c++) {
                        if (!kernel(List.of(part.get(a), part.get(b), part.get(c)), 3).isEmpty()) {
                            return false;
                        }
                    }
                }
            }
        }
        return true;
    }

    private static BigInteger[] shiftTo(BigInteger[] p) {
        return new BigInteger[] {p[2], ZERO, p[0], ZERO, p[2], p[1], ZERO, ZERO, p[2]};
    }

    private static BigInteger[] around(BigInteger[] p, BigInteger[] atOrigin) {
        BigInteger[] away = {p[0].negate(), p[1].negate(), p[2]};
        return compose(compose(shiftTo(away), atOrigin), shiftTo(p));
    }

    /** By the images of three points: the mirror image lies as far beyond the foot on the line. */
    private static BigInteger[] glide(BigInteger[] l, int u, int v) {
        BigInteger square = l[0].multiply(l[0]).add(l[1].multiply(l[1]));
        if (square.signum() == 0) {
            return null;
        }
        List<BigInteger[]> pairs = new ArrayList<>(List.of(big(0, 0, 1), big(1, 0, 1), big(0, 1, 1)));
        BigInteger bigU = BigInteger.valueOf(u);
        BigInteger bigV = BigInteger.valueOf(v);
        for (int i = 0; i < 3; i++) {
            BigInteger[] p = pairs.get(i);
            BigInteger[] upright = {l[0], l[1], ZERO};
            BigInteger[] across = kernel(List.of(p, upright), 3).get(0);
            BigInteger[] foot = kernel(List.of(across, l), 3).get(0);
            BigInteger x = foot[0].shiftLeft(1).subtract(p[0].multiply(foot[2]));
            BigInteger y = foot[1].shiftLeft(1).subtract(p[1].multiply(foot[2]));
            BigInteger push = bigU.multiply(foot[2]);
            pairs.add(new BigInteger[] {x.multiply(bigV).subtract(push.multiply(l[1])),
                y.multiply(bigV).add(push.multiply(l[0])), foot[2].multiply(bigV)});
        }
        return solve(pairs, affineForm());
    }

    /** Each unknown's table: the table sought is a sum of multiples of these. */
    private static List<BigInteger[]> freeForm() {
        List<BigInteger[]> basis = new ArrayList<>();
        for (int i = 0; i < 9; i++) {
            BigInteger[] one = big(0, 0, 0, 0, 0, 0, 0, 0, 0);
            one[i] = ONE;
            basis.add(one);
        }
        return basis;
    }

    private static List<BigInteger[]> affineForm() {
        List<BigInteger[]> basis = freeForm();
        basis.remove(7);
        basis.remove(6);
        return basis;
    }

    private static List<BigInteger[]> likenessForm() {
        return List.of(big(1, 0, 0, 0, 1, 0, 0, 0, 0), big(0, -1, 0, 1, 0, 0, 0, 0, 0),
                big(0, 0, 1, 0, 0, 0, 0, 0, 0), big(0, 0, 0, 0, 0, 1, 0, 0, 0), big(0, 0, 0, 0, 0, 0, 0, 0, 1));
    }

    /** The one table of the form that takes the first half of the points to the second half. */
    private static BigInteger[] solve(List<BigInteger[]> pairs, List<BigInteger[]> form) {
        int many = pairs.size() / 2;
        List<BigInteger[]> equations = new ArrayList<>();
        for (int i = 0; i < many; i++) {
            BigInteger[] to = pairs.get(many + i);
            for (int cell = 0; cell < 3; cell++) {
                BigInteger[] equation = new BigInteger[form.size()];
                for (int n = 0; n < form.size(); n++) {
                    BigInteger[] at = apply(form.get(n), pairs.get(i));
                    int a = (cell + 1) % 3;
                    int b = (cell + 2) % 3;
                    equation[n] = at[a].multiply(to[b]).subtract(at[b].multiply(to[a]));
                }
                equations.add(equation);
            }
        }
        List<BigInteger[]> found = kernel(equations, form.size());
        if (found.size() != 1) {
            throw new IllegalStateException("not just one table: " + found.size());
        }
        BigInteger[] t = big(0, 0, 0, 0, 0, 0, 0, 0, 0);
        for (int n = 0; n < form.size(); n++) {
            for (int i = 0; i < 9; i++) {
                t[i] = t[i].add(found.get(0)[n].multiply(form.get(n)[i]));
            }
        }
        return t;
    }

    // ---- telling apart

    private static int affineKind(BigInteger[] t) {
        BigInteger w = t[8];
        if (Arrays.equals(least(t), identity())) {
            return 0;
        }
        // The ways from the image of (0, 0) to those of (1, 0) and (0, 1), each times w.
        BigInteger[] o = apply(t, big(0, 0, 1));
        BigInteger[] e = apply(t, big(1, 0, 1));
        BigInteger[] n = apply(t, big(0, 1, 1));
        BigInteger ex = e[0].subtract(o[0]);
        BigInteger ey = e[1].subtract(o[1]);
        BigInteger nx = n[0].subtract(o[0]);
        BigInteger ny = n[1].subtract(o[1]);
        boolean straight = ey.signum() == 0 && nx.signum() == 0 && ex.equals(ny);
        BigInteger unit = w.multiply(w);
        BigInteger east = ex.multiply(ex).add(ey.multiply(ey));
        BigInteger north = nx.multiply(nx).add(ny.multiply(ny));
        boolean angles = east.equals(north) && ex.multiply(nx).add(ey.multiply(ny)).signum() == 0;
        BigInteger area = ex.multiply(ny).subtract(ey.multiply(nx));
        boolean over = area.signum() < 0;
        if (straight && ex.equals(w)) {
            return 1;
        }
        if (angles && !over) {
            boolean turn = east.equals(unit);
            return turn ? (straight ? 2 : 3) : straight ? 4 : 5;
        }
        if (angles) {
            boolean twice = Arrays.equals(primitive(compose(t, t)), identity());
            return east.equals(unit) ? (twice ? 6 : 7) : 8;
        }
        List<BigInteger[]> stay = stay(t, w.longValueExact());
        boolean allOfLine = stay.size() == 2
                && (stay.get(0)[2].signum() != 0 || stay.get(1)[2].signum() != 0);
        if (allOfLine) {
            return area.equals(unit) ? 9 : 10;
        }
        return area.abs().equals(unit) ? 11 : 12;
    }

    private static int projectiveKind(BigInteger[] t) {
        for (long z : owns(t)) {
            List<BigInteger[]> stay = stay(t, z);
            if (stay.size() == 2) {
                BigInteger[] axis = kernel(stay, 3).get(0);
                BigInteger[] centre = centre(t, axis);
                if (dot(centre, axis).signum() == 0) {
                    return 13;
                }
                return Arrays.equals(primitive(compose(t, t)), identity()) ? 14 : 15;
            }
        }
        return 16;
    }

    /** Where the ways of points to their images meet, for points that are not on the axis. */
    private static BigInteger[] centre(BigInteger[] t, BigInteger[] axis) {
        List<BigInteger[]> ways = new ArrayList<>();
        for (int x = -2; x <= 2; x++) {
            for (int y = -2; y <= 2; y++) {
                BigInteger[] p = big(x, y, 1);
                BigInteger[] q = apply(t, p);
                List<BigInteger[]> way = kernel(List.of(p, q), 3);
                if (dot(p, axis).signum() != 0 && way.size() == 1) {
                    ways.add(way.get(0));
                }
            }
        }
        List<BigInteger[]> meet = kernel(ways, 3);
        if (meet.size() != 1) {
            throw new IllegalStateException("no centre");
        }
        return meet.get(0);
    }

    private static List<Long> owns(BigInteger[] table) {
        long[] t = new long[9];
        for (int i = 0; i < 9; i++) {
            t[i] = table[i].longValueExact();
        }
        List<Long> values = new ArrayList<>();
        for (long z = -2000; z <= 2000; z++) {
            long a = t[0] - z;
            long e = t[4] - z;
            long i = t[8] - z;
            long d = a * e * i + t[1] * t[5] * t[6] + t[2] * t[3] * t[7] - t[2] * e * t[6] - t[1] * t[3] * i
                    - a * t[5] * t[7];
            if (d == 0) {
                values.add(z);
            }
        }
        return values;
    }

    private static List<BigInteger[]> stay(BigInteger[] t, long z) {
        List<BigInteger[]> rows = new ArrayList<>();
        for (int i = 0; i < 3; i++) {
            BigInteger[] one = {t[3 * i], t[3 * i + 1], t[3 * i + 2]};
            one[i] = one[i].subtract(BigInteger.valueOf(z));
            rows.add(one);
        }
        return kernel(rows, 3);
    }

    // ---- reckoning

    private static BigInteger[] big(long... numbers) {
        BigInteger[] all = new BigInteger[numbers.length];
        for (int i = 0; i < numbers.length; i++) {
            all[i] = BigInteger.valueOf(numbers[i]);
        }
        return all;
    }

    private static BigInteger[] identity() {
        return big(1, 0, 0, 0, 1, 0, 0, 0, 1);
    }

    private static BigInteger dot(BigInteger[] a, BigInteger[] b) {
        BigInteger sum = ZERO;
        for (int i = 0; i < a.length; i++) {
            sum = sum.add(a[i].multiply(b[i]));
        }
        return sum;
    }

    private static BigInteger[] apply(BigInteger[] t, BigInteger[] p) {
        BigInteger[] q = new BigInteger[3];
        for (int i = 0; i < 3; i++) {
            q[i] = dot(Arrays.copyOfRange(t, 3 * i, 3 * i + 3), p);
        }
        return q;
    }

    /** First a, then b: the columns of the table are the images of the unit rows. */
    private static BigInteger[] compose(BigInteger[] a, BigInteger[] b) {
        BigInteger[] t = new BigInteger[9];
        for (int j = 0; j < 3; j++) {
            BigInteger[] unit = big(0, 0, 0);
            unit[j] = ONE;
            BigInteger[] column = apply(b, apply(a, unit));
            for (int i = 0; i < 3; i++) {
                t[3 * i + j] = column[i];
            }
        }
        return t;
    }

    /** By what takes four images back to where they came from. */
    private static BigInteger[] inverse(BigInteger[] t) {
        List<BigInteger[]> came = List.of(big(1, 0, 0), big(0, 1, 0), big(0, 0, 1), big(1, 1, 1));
        List<BigInteger[]> pairs = new ArrayList<>();
        for (BigInteger[] p : came) {
            pairs.add(apply(t, p));
        }
        pairs.addAll(came);
        return solve(pairs, freeForm());
    }

    private static BigInteger form(BigInteger[] c, BigInteger[] p) {
        BigInteger[] products = {p[0].multiply(p[0]), p[0].multiply(p[1]), p[1].multiply(p[1]),
            p[0].multiply(p[2]), p[1].multiply(p[2]), p[2].multiply(p[2])};
        return dot(c, products);
    }

    /** The six numbers of the form at what was there before, from its values at six places. */
    private static BigInteger[] movedForm(BigInteger[] c, BigInteger[] inverse) {
        BigInteger a = form(c, apply(inverse, big(1, 0, 0)));
        BigInteger b = form(c, apply(inverse, big(1, 1, 0)));
        BigInteger cc = form(c, apply(inverse, big(0, 1, 0)));
        BigInteger d = form(c, apply(inverse, big(1, 0, 1)));
        BigInteger e = form(c, apply(inverse, big(0, 1, 1)));
        BigInteger f = form(c, apply(inverse, big(0, 0, 1)));
        return new BigInteger[] {a, b.subtract(a).subtract(cc), cc, d.subtract(a).subtract(f),
            e.subtract(cc).subtract(f), f};
    }

    /** i, j with m q = i r + j s for one m that is not 0; null, if there are none. */
    private BigInteger[] shares(int q, int r, int s) {
        List<BigInteger[]> equations = new ArrayList<>();
        for (int i = 0; i < 3; i++) {
            equations.add(new BigInteger[] {objects.get(r)[i], objects.get(s)[i], objects.get(q)[i].negate()});
        }
        List<BigInteger[]> found = kernel(equations, 3);
        return found.isEmpty() ? null : found.get(0);
    }

    /** A basis of all rows that every equation takes to 0, by elimination without fractions. */
    static List<BigInteger[]> kernel(List<BigInteger[]> equations, int width) {
        List<BigInteger[]> rows = new ArrayList<>();
        for (BigInteger[] equation : equations) {
            rows.add(equation.clone());
        }
        int[] pivotRow = new int[width];
        Arrays.fill(pivotRow, -1);
        int done = 0;
        for (int column = 0; column < width; column++) {
            int pivot = done;
            while (pivot < rows.size() && rows.get(pivot)[column].signum() == 0) {
                pivot++;
            }
            if (pivot == rows.size()) {
                continue;
            }
            BigInteger[] chosen = primitive(rows.get(pivot));
            rows.set(pivot, rows.get(done));
            rows.set(done, chosen);
            for (int k = 0; k < rows.size(); k++) {
                if (k != done && rows.get(k)[column].signum() != 0) {
                    BigInteger factor = rows.get(k)[column];
                    for (int j = 0; j < width; j++) {
                        rows.get(k)[j] = rows.get(k)[j].multiply(chosen[column])
                                .subtract(chosen[j].multiply(factor));
                    }
                }
            }
            pivotRow[column] = done;
            done++;
        }
        List<BigInteger[]> basis = new ArrayList<>();
        for (int free = 0; free < width; free++) {
            if (pivotRow[free] >= 0) {
                continue;
            }
            BigInteger product = ONE;
            for (int column = 0; column < width; column++) {
                product = pivotRow[column] < 0 ? product : product.multiply(rows.get(pivotRow[column])[column]);
            }
            BigInteger[] one = new BigInteger[width];
            for (int column = 0; column < width; column++) {
                int at = pivotRow[column];
                one[column] = at < 0 ? (column == free ? product : ZERO)
                        : rows.get(at)[free].negate().multiply(product).divide(rows.get(at)[column]);
            }
            basis.add(primitive(one));
        }
        return basis;
    }
}
