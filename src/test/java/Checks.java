/** Compares answers with what is due, and ends the program with 1 if one was wrong. */
final class Checks {
    static final int UNKNOWN = -1, OUTSIDE = -2, WRONG = -3, ROOM = -4;
    static final long NONE = Long.MIN_VALUE;
    /** Numbers that no OBJECT and no MAP has. */
    static final int[] NO_NUMBERS = {Integer.MIN_VALUE, -1, 60, Integer.MAX_VALUE};

    private int wrong;
    private int made;
    private final String name;

    Checks(String name) {
        this.name = name;
    }

    void due(String call, long got, long want) {
        made++;
        if (got != want) {
            wrong++;
            System.out.println(call + " answered " + got + ", due is " + want);
        }
    }

    void holds(String what, boolean so) {
        made++;
        if (!so) {
            wrong++;
            System.out.println("does not hold: " + what);
        }
    }

    /** The sort of an OBJECT and its LEAST row. */
    void objectDue(String what, TransformRows x, int object, int sort, int... numbers) {
        due(what + ": number(" + object + ", 6)", x.number(object, 6), sort);
        for (int i = 0; i < numbers.length; i++) {
            due(what + ": number(" + object + ", " + i + ")", x.number(object, i), numbers[i] + 1000);
        }
    }

    /** The LEAST row of a MAP. */
    void mapDue(String what, TransformRows x, int map, int... numbers) {
        holds(what + " is a MAP: " + map, map >= 0);
        for (int i = 0; i < 9; i++) {
            due(what + ": entry(" + map + ", " + i + ")", x.entry(map, i), numbers[i] + 1000);
        }
    }

    /** The LEAST row of an element of THE GROUP. */
    void elementDue(String what, TransformRows x, int k, int... numbers) {
        for (int i = 0; i < 9; i++) {
            due(what + ": element(" + k + ", " + i + ")", x.element(k, i), numbers[i] + 1000);
        }
    }

    /** What make answers when just these were given. */
    static int made(TransformRows x, int kind, int u, int v, int... given) {
        for (int object : given) {
            x.give(object);
        }
        return x.make(kind, u, v);
    }

    /** A MAP by its table, each row of which must be LEAST. */
    static int any(TransformRows x, int... t) {
        return made(x, 8, 0, 0, x.line(t[0], t[1], t[2]), x.line(t[3], t[4], t[5]), x.line(t[6], t[7], t[8]));
    }

    /** A SHIFT by (x, y). */
    static int shift(TransformRows plane, int x, int y) {
        return made(plane, 0, 0, 0, plane.point(x, y, 1));
    }

    int wrongOnes() {
        return wrong;
    }

    void end() {
        System.out.println(name + ": " + made + " checks, " + wrong + " wrong");
        if (wrong != 0) {
            System.exit(1);
        }
    }
}
