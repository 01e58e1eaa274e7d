/** Promises 21 to 24: THE SEEDS and THE GROUP. */
public final class GroupsTest {
    private static final int UNKNOWN = Checks.UNKNOWN, OUTSIDE = Checks.OUTSIDE, WRONG = Checks.WRONG,
            ROOM = Checks.ROOM;
    private static final int[] STAYS = {1, 0, 0, 0, 1, 0, 0, 0, 1};
    private static final Checks CHECKS = new Checks("GroupsTest");

    public static void main(String[] args) {
        seeds();
        ofASquare();
        bounds();
        moreThanMost();
        noRoom();
        ofACube();
        elements();
        amongOnes();
        CHECKS.end();
    }

    private static void due(String call, long got, long want) {
        CHECKS.due(call, got, want);
    }

    private static void seeds() {
        TransformRows x = new TransformRows();
        int stays = Checks.shift(x, 0, 0);
        int shift = Checks.shift(x, 1, 0);
        due("seed", x.seed(stays), 1);
        due("seed", x.seed(shift), 2);
        due("the same once more", x.seed(shift), 3);
        for (int k : Checks.NO_NUMBERS) {
            due("seed of none", x.seed(k), UNKNOWN);
        }
        due("seed", x.seed(stays), 4);
        due("there are 4", x.seed(stays), ROOM);
        due("there are 4, and none", x.seed(2), UNKNOWN);
        due("no longer any", x.group(1), 0);
        due("seed", x.seed(stays), 1);
        due("all stays", x.group(1), 1);
    }

    /** MAP 0 a quarter, MAP 1 a mirror; both are seeds, in this order. */
    private static TransformRows square() {
        TransformRows x = new TransformRows();
        Checks.made(x, 1, 1, 1, x.point(0, 0, 1));
        Checks.made(x, 2, 0, 0, x.line(0, 1, 0));
        x.seed(0);
        x.seed(1);
        return x;
    }

    private static final int[][] SQUARE = {STAYS,
        {0, 1, 0, -1, 0, 0, 0, 0, -1}, {1, 0, 0, 0, -1, 0, 0, 0, 1}, {1, 0, 0, 0, 1, 0, 0, 0, -1},
        {0, 1, 0, 1, 0, 0, 0, 0, -1}, {0, 1, 0, 1, 0, 0, 0, 0, 1}, {0, 1, 0, -1, 0, 0, 0, 0, 1},
        {1, 0, 0, 0, -1, 0, 0, 0, -1}};

    private static void squareDue(String what, TransformRows x, int many) {
        for (int k = 0; k < many; k++) {
            CHECKS.elementDue(what, x, k, SQUARE[k]);
        }
        due(what + ": no more", x.element(many, 0), OUTSIDE);
    }

    private static void ofASquare() {
        TransformRows x = square();
        due("group", x.group(48), 8);
        squareDue("square", x, 8);
        due("no MAP is new", x.count(1), 2);
        due("no SEEDS any more", x.group(48), 1);
        squareDue("without seeds", x, 1);
        x.seed(1);
        due("of a mirror", x.group(48), 2);
        CHECKS.elementDue("mirror", x, 1, SQUARE[2]);
        x.seed(1);
        x.seed(0);
        due("the mirror first", x.group(8), 8);
        CHECKS.elementDue("the mirror first", x, 1, SQUARE[2]);
        CHECKS.elementDue("the mirror first", x, 2, SQUARE[1]);
        CHECKS.elementDue("mirror, then quarter", x, 3, SQUARE[5]);
        CHECKS.elementDue("quarter, then mirror", x, 4, SQUARE[4]);
    }

    private static void bounds() {
        TransformRows x = square();
        for (int most : new int[] {0, 49, -1, Integer.MIN_VALUE, Integer.MAX_VALUE}) {
            due("group(" + most + ")", x.group(most), OUTSIDE);
        }
        squareDue("nothing is changed", x, 1);
        due("the SEEDS stay", x.seed(1), 3);
        due("group", x.group(48), 8);
        due("group out of bounds", x.group(0), OUTSIDE);
        squareDue("nothing is changed", x, 8);
    }

    private static void moreThanMost() {
        for (int most = 1; most < 8; most++) {
            TransformRows x = square();
            due("group(" + most + ")", x.group(most), 0);
            squareDue("the first " + most, x, most);
            due("no SEEDS any more", x.seed(0), 1);
        }
        TransformRows x = square();
        due("just so many", x.group(8), 8);
        TransformRows shifts = new TransformRows();
        shifts.seed(Checks.shift(shifts, 1, 0));
        due("without end", shifts.group(48), 0);
        CHECKS.elementDue("the last that stands", shifts, 47, 1, 0, 47, 0, 1, 0, 0, 0, 1);
        due("no more", shifts.element(48, 0), OUTSIDE);
    }

    private static void noRoom() {
        TransformRows x = new TransformRows();
        x.seed(Checks.shift(x, 300, 0));
        due("NO ROOM", x.group(48), ROOM);
        CHECKS.elementDue("before it", x, 0, STAYS);
        CHECKS.elementDue("before it", x, 1, 1, 0, 300, 0, 1, 0, 0, 0, 1);
        due("no more", x.element(2, 0), OUTSIDE);
        due("no SEEDS any more", x.group(48), 1);
        int twice = Checks.made(x, 3, 2, 1, x.point(0, 0, 1));
        x.seed(twice);
        due("up to 256", x.group(48), ROOM);
        CHECKS.elementDue("256", x, 8, 256, 0, 0, 0, 256, 0, 0, 0, 1);
        due("no more", x.element(9, 0), OUTSIDE);
        x.seed(twice);
        due("there would be more", x.group(8), 0);
        due("128", x.element(7, 0), 1128);
        due("no more", x.element(8, 0), OUTSIDE);
    }

    /** The turns of a cube: 24. */
    private static void ofACube() {
        TransformRows x = square();
        x.seed(Checks.any(x, 0, 0, 1, 1, 0, 0, 0, 1, 0));
        due("turns of a cube", x.group(48), 24);
        x.seed(0);
        x.seed(2);
        due("by two of the three", x.group(24), 24);
        CHECKS.holds("its last stands", x.element(23, 8) != OUTSIDE);
        due("no more", x.element(24, 8), OUTSIDE);
        x.seed(0);
        x.seed(2);
        due("one less", x.group(23), 0);
    }

    private static void elements() {
        TransformRows x = square();
        CHECKS.elementDue("before THE GROUP", x, 0, STAYS);
        for (int k : new int[] {1, -1, Integer.MIN_VALUE, Integer.MAX_VALUE}) {
            due("element(" + k + ", 0)", x.element(k, 0), OUTSIDE);
        }
        x.group(48);
        for (int i : new int[] {-1, 9, Integer.MIN_VALUE, Integer.MAX_VALUE}) {
            due("element(0, " + i + ")", x.element(0, i), OUTSIDE);
            due("element(7, " + i + ")", x.element(7, i), OUTSIDE);
            due("element(8, " + i + ")", x.element(8, i), OUTSIDE);
        }
        due("below 0", x.element(1, 3), 999);
    }

    private static void amongOnes() {
        TransformRows x = square();
        int stays = Checks.shift(x, 0, 0);
        int half = x.then(0, 0);
        int shift = Checks.shift(x, 1, 1);
        due("before THE GROUP, all that stays", x.among(stays), 0);
        due("before THE GROUP, another", x.among(0), WRONG);
        x.group(48);
        due("all that stays", x.among(stays), 0);
        due("the quarter", x.among(0), 1);
        due("the mirror", x.among(1), 2);
        due("the half", x.among(half), 3);
        due("none of them", x.among(shift), WRONG);
        for (int k : Checks.NO_NUMBERS) {
            due("among of none", x.among(k), UNKNOWN);
        }
        x.seed(1);
        x.group(48);
        due("of the latest one", x.among(1), 1);
        due("of the latest one", x.among(0), WRONG);
    }
}
