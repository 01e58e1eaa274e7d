/** Compares answers with what is due, and ends the program with 1 if one was wrong. */
final class Checks {
    static final int UNKNOWN = -1, OUTSIDE = -2, WRONG = -3, ROOM = -4;
    static final long NONE = Long.MIN_VALUE;
    /**
     * Numbers that no OBJECT and no MAP has: the last three, times 9, 6 or 3, wrap around to a place
     * that there is.
     */
    static final int[] NO_NUMBERS = {Integer.MIN_VALUE, -1, 60, Integer.MAX_VALUE, 477218589, 715827883, 1431655766};
    /** Beyond a bound of 500, the nearest ones and the utmost ones. */
    static final int[] BEYOND_500 = {501, -501, Integer.MAX_VALUE, -Integer.MAX_VALUE, Integer.MIN_VALUE};

    private int wrong;
    private int made;
    private final String name;

    Checks(String name) {
        this.name = name;
    }

    void due(String call, long got, long want) {
        made++;
        if (got != want) {
            wrong++;
            System.out.println(call + " answered " + got + ", due is " + want);
        }
    }

    void holds(String what, boolean so) {
        made++;
        if (!so) {
            wrong++;
            System.out.println("does not hold: " + what);
        }
    }

    /** The sort of an OBJECT and its LEAST row. */
    void objectDue(String what, TransformRows x, int object, int sort, int... numbers) {
        due(what + ": number(" + object + ", 6)", x.number(object, 6), sort);
        for (int i = 0; i < numbers.length; i++) {
            due(what + ": number(" + object + ", " + i + ")", x.number(object, i), numbers[i] + 1000);
        }
    }

    /** The LEAST row of a MAP. */
    void mapDue(String what, TransformRows x, int map, int... numbers) {
        holds(what + " is a MAP: " + map, map >= 0);
        for (int i = 0; i < 9; i++) {
            due(what + ": entry(" + map + ", " + i + ")", x.entry(map, i), numbers[i] + 1000);
        }
    }

    /** The LEAST row of an element of THE GROUP. */
    void elementDue(String what, TransformRows x, int k, int... numbers) {
        for (int i = 0; i < 9; i++) {
            due(what + ": element(" + k + ", " + i + ")", x.element(k, i), numbers[i] + 1000);
        }
    }

    /** What make answers when just these were given. */
    static int made(TransformRows x, int kind, int u, int v, int... given) {
        for (int object : given) {
            x.give(object);
        }
        return x.make(kind, u, v);
    }

    /** A MAP by its table, each row of which must be LEAST. */
    static int any(TransformRows x, int... t) {
        return made(x, 8, 0, 0, x.line(t[0], t[1], t[2]), x.line(t[3], t[4], t[5]), x.line(t[6], t[7], t[8]));
    }

    /** A MAP by its table, though its rows need not be LEAST: by where it takes the unit POINTS and one more. */
    static int table(TransformRows x, int... t) {
        int[][] fourths = {{1, 1, 1}, {1, 1, -1}, {1, -1, 1}, {1, -1, -1}};
        for (int[] s : fourths) {
            int[] to = new int[3];
            boolean fits = true;
            for (int i = 0; i < 3; i++) {
                to[i] = s[0] * t[3 * i] + s[1] * t[3 * i + 1] + s[2] * t[3 * i + 2];
                fits = fits && Math.abs(to[i]) <= 500;
            }
            if (fits) {
                return made(x, 7, 0, 0, x.point(1, 0, 0), x.point(0, 1, 0), x.point(0, 0, 1), x.point(s[0], s[1], s[2]),
                        x.point(t[0], t[3], t[6]), x.point(t[1], t[4], t[7]), x.point(t[2], t[5], t[8]),
                        x.point(to[0], to[1], to[2]));
            }
        }
        return any(x, t);
    }

    /** A SHIFT by (x, y). */
    static int shift(TransformRows plane, int x, int y) {
        return made(plane, 0, 0, 0, plane.point(x, y, 1));
    }

    int wrongOnes() {
        return wrong;
    }

    void end() {
        System.out.println(name + ": " + made + " checks, " + wrong + " wrong");
        if (wrong != 0) {
            System.exit(1);
        }
    }
}
