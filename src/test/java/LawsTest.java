import java.util.Random;

/**
 * What the document says in words of MAPS and OBJECTS, asked of the class alone: each answer is held
 * against other answers of the same object, so that no second program's reading comes in. The same
 * runs each time.
 */
public final class LawsTest {
    private static final int RUNS = 20000;
    private static final int[] SCALES = {1, 2, 3, 6, 20};
    private static final int[] NEEDED = {1, 1, 1, 1, 1, 4, 6, 8, 3};
    private static final int POINT = 0, LINE = 1;

    private final Checks checks = new Checks("LawsTest");
    private final int[] kept = new int[13];
    private Random random;
    private TransformRows x;
    private int scale;
    private int run;

    public static void main(String[] args) {
        new LawsTest().runAll();
    }

    private void runAll() {
        for (run = 0; run < RUNS && checks.wrongOnes() == 0; run++) {
            random = new Random(run);
            x = new TransformRows();
            scale = SCALES[random.nextInt(SCALES.length)];
            int kind = run % 9;
            int map = make(kind);
            if (map >= 0) {
                tellsItsKind(kind, map);
                movesObjects(map);
                goesBack(map);
                keepsWhatIsFixed(map);
                comesRound(map);
                makesAGroup(map);
            }
        }
        // A law that was never met would tell nothing.
        for (int law = 0; law < kept.length; law++) {
            checks.holds("law " + law + " was met: " + kept[law], kept[law] > 50);
        }
        checks.end();
    }

    private void law(int number, String what, boolean so) {
        kept[number]++;
        checks.holds("run " + run + ": " + what, so);
    }

    private void sameDue(int number, String what, long got, long want) {
        kept[number]++;
        checks.due("run " + run + ": " + what, got, want);
    }

    private int some() {
        return random.nextInt(2 * scale + 1) - scale;
    }

    /** An OBJECT of the sort; below 0, if all are 0 or there is no room any more. */
    private int object(int sort) {
        return sort == POINT ? x.point(some(), some(), random.nextInt(4) == 0 ? some() : 1)
                : sort == LINE ? x.line(some(), some(), some())
                : x.conic(some(), some(), some(), some(), some(), some());
    }

    // ---- TO MAKE

    private int make(int kind) {
        int sort = kind == 2 || kind == 4 || kind == 8 ? LINE : POINT;
        int[] given = new int[NEEDED[kind]];
        for (int k = 0; k < given.length; k++) {
            given[k] = object(sort);
        }
        int map = Checks.made(x, kind, some(), some(), given);
        sameDue(0, "THE ROW is empty", x.count(2), 0);
        if (map >= 0 && kind >= 5 && kind <= 7) {
            for (int k = 0; k < given.length / 2; k++) {
                sameDue(1, "the first ones to the last ones", x.image(map, given[k]), given[k + given.length / 2]);
            }
        }
        if (map >= 0 && kind == 0) {
            sameDue(1, "what takes (0, 0, 1) to it", x.image(map, x.point(0, 0, 1)), given[0]);
        }
        if (map >= 0 && (kind == 1 || kind == 3)) {
            sameDue(1, "around it, from it", x.image(map, given[0]), given[0]);
        }
        if (map >= 0 && kind == 2) {
            int p = x.join(given[0], object(LINE));
            sameDue(1, "a POINT of the LINE stays", p < 0 ? p : x.image(map, p), p);
        }
        if (map >= 0 && kind == 4) {
            sameDue(1, "the LINE stays as a whole", x.image(map, given[0]), given[0]);
        }
        return map;
    }

    /** The KINDS that a MAP made so can be of. */
    private void tellsItsKind(int made, int map) {
        int kind = x.kind(map);
        boolean[] fits = {kind <= 1, kind == 0 || kind == 2 || kind == 3, kind == 6,
            kind == 0 || kind == 2 || kind == 4, kind == 6 || kind == 7, kind <= 5, kind <= 12, kind <= 16, kind <= 16};
        law(2, "made as " + made + " it is of kind " + kind, kind >= 0 && fits[made]);
        boolean keepsFar = x.image(map, x.line(0, 0, 1)) == x.line(0, 0, 1);
        law(2, "keeps FAR POINTS FAR, of kind " + kind, keepsFar == kind <= 12);
    }

    // ---- images

    private void movesObjects(int map) {
        for (int tries = 0; tries < 4; tries++) {
            int p = object(POINT);
            int q = object(POINT);
            int movedP = x.image(map, p);
            int movedQ = x.image(map, q);
            int line = x.join(p, q);
            int movedLine = x.image(map, line);
            if (movedP >= 0 && movedQ >= 0 && movedLine >= 0) {
                sameDue(3, "the LINE through the images", x.join(movedP, movedQ), movedLine);
            }
            // With numbers so small, POINTS lie on CONICS often enough.
            for (int other : new int[] {object(LINE), object(2)}) {
                int moved = x.image(map, other);
                if (movedP >= 0 && moved >= 0) {
                    sameDue(4, "lies on the image just when it lies on it", x.on(movedP, moved), x.on(p, other));
                }
            }
            keepsRatios(map, p, q);
            keepsShapes(map, object(2));
        }
    }

    private void keepsRatios(int map, int p, int q) {
        int line = x.join(p, q);
        int r = x.join(line, object(LINE));
        int s = x.join(line, object(LINE));
        int[] moved = {x.image(map, p), x.image(map, q), x.image(map, r), x.image(map, s)};
        for (int one : moved) {
            if (one < 0) {
                return;
            }
        }
        for (int side = 0; side < 2; side++) {
            sameDue(5, "THE CROSS RATIO of the images", x.cross(moved[0], moved[1], moved[2], moved[3], side),
                    x.cross(p, q, r, s, side));
        }
    }

    /** A circle stays one by a likeness, turned over or not; an ellipse stays one where FAR POINTS stay FAR. */
    private void keepsShapes(int map, int conic) {
        int moved = x.image(map, conic);
        if (moved < 0) {
            return;
        }
        int was = x.shape(conic);
        int is = x.shape(moved);
        int kind = x.kind(map);
        if (kind <= 8) {
            sameDue(6, "shape by a likeness", is, was);
        } else if (kind <= 12) {
            sameDue(7, "shape where FAR POINTS stay FAR", is == 2 ? 3 : is, was == 2 ? 3 : was);
        } else {
            sameDue(8, "only one with D 0 has an image with D 0", is == 0 ? 0 : 1, was == 0 ? 0 : 1);
        }
    }

    // ---- put together and turned back

    private void goesBack(int map) {
        int back = x.back(map);
        if (back < 0) {
            return;
        }
        sameDue(9, "there and back", x.kind(x.then(map, back)), 0);
        sameDue(9, "back and there", x.kind(x.then(back, map)), 0);
        sameDue(9, "back of back", x.back(back), map);
        sameDue(9, "kind of back", x.kind(back), x.kind(map));
        int second = Checks.made(x, 4, some(), 1, x.line(1, some(), some()));
        int both = x.then(map, second);
        int p = object(POINT);
        int moved = x.image(second, x.image(map, p));
        if (both >= 0 && moved >= 0) {
            sameDue(9, "the one, then the other", x.image(both, p), moved);
        }
    }

    private void keepsWhatIsFixed(int map) {
        for (int k = 0; k < 4; k++) {
            boolean there = x.own(map, k) != Checks.NONE;
            int fixed = x.fixed(map, k);
            law(10, "just as many are FIXED", there == (fixed != Checks.OUTSIDE));
            sameDue(10, "all is FIXED by all that stays alone", fixed == Checks.WRONG ? 0 : 1,
                    there && x.kind(map) == 0 ? 0 : 1);
            if (there && k > 0) {
                law(10, "rising", x.own(map, k - 1) < x.own(map, k));
            }
            if (fixed < 0) {
                continue;
            }
            sameDue(10, "what is FIXED stays", x.image(map, fixed), fixed);
            if (x.number(fixed, 6) == LINE) {
                int p = x.join(fixed, object(LINE));
                sameDue(10, "each POINT of it stays", p < 0 ? p : x.image(map, p), p);
            }
        }
    }

    // ---- how often, and groups

    private void comesRound(int map) {
        int times = x.order(map, 12);
        if (times <= 0) {
            return;
        }
        int power = map;
        for (int k = 1; k < times; k++) {
            law(11, "not yet", x.kind(power) != 0);
            power = x.then(power, map);
        }
        sameDue(11, "all stays", x.kind(power), 0);
    }

    private void makesAGroup(int map) {
        int most = 1 + random.nextInt(12);
        int times = x.order(map, 12);
        x.seed(map);
        int many = x.group(most);
        if (times > 0) {
            sameDue(12, "as many as it comes round by", many, times <= most ? times : 0);
        }
        if (many > 0) {
            sameDue(12, "it is the next element", x.among(map), x.kind(map) == 0 ? 0 : 1);
            sameDue(12, "no more", x.element(many, 0), Checks.OUTSIDE);
        }
        sameDue(12, "no SEEDS any more", x.group(48), 1);
    }
}
