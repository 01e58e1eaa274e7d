/** Promises 12 to 20: what MAPS are, do and fix. */
public final class MapsTest {
    private static final int UNKNOWN = Checks.UNKNOWN, OUTSIDE = Checks.OUTSIDE, WRONG = Checks.WRONG,
            ROOM = Checks.ROOM;
    private static final long NONE = Checks.NONE;
    private static final Checks CHECKS = new Checks("MapsTest");

    public static void main(String[] args) {
        counts();
        entries();
        thenOther();
        turnedBack();
        imagesOfPoints();
        imagesOfLines();
        imagesOfConics();
        imagesRefused();
        kindsOfLikenesses();
        kindsOfOtherAffineOnes();
        kindsOfProjectiveOnes();
        ownValues();
        fixedOnes();
        fixedRefused();
        orders();
        ordersRefused();
        CHECKS.end();
    }

    private static void due(String call, long got, long want) {
        CHECKS.due(call, got, want);
    }

    private static void counts() {
        TransformRows x = new TransformRows();
        x.give(x.point(1, 1, 1));
        x.line(1, 1, 1);
        x.make(0, 0, 0);
        x.give(0);
        x.give(1);
        x.give(1);
        due("OBJECTS", x.count(0), 2);
        due("MAPS", x.count(1), 1);
        due("in THE ROW", x.count(2), 3);
        for (int what : new int[] {-1, 3, Integer.MIN_VALUE, Integer.MAX_VALUE}) {
            due("count(" + what + ")", x.count(what), OUTSIDE);
        }
    }

    private static void entries() {
        TransformRows x = new TransformRows();
        int map = Checks.any(x, 0, 1, -500, 1, 2, 3, 3, -7, 500);
        CHECKS.mapDue("entry", x, map, 0, 1, -500, 1, 2, 3, 3, -7, 500);
        for (int i : new int[] {-1, 9, Integer.MIN_VALUE, Integer.MAX_VALUE}) {
            due("entry(0, " + i + ")", x.entry(0, i), OUTSIDE);
            due("UNKNOWN comes first", x.entry(1, i), UNKNOWN);
        }
        for (int k : Checks.NO_NUMBERS) {
            due("entry of none", x.entry(k, 0), UNKNOWN);
        }
    }

    private static void thenOther() {
        TransformRows x = new TransformRows();
        int shift = Checks.shift(x, 1, 0);
        int quarter = Checks.made(x, 1, 1, 1, x.point(0, 0, 1));
        // (x, y) goes to (-y, x + 1), or to (1 - y, x).
        CHECKS.mapDue("shift, then turn", x, x.then(shift, quarter), 0, 1, 0, -1, 0, -1, 0, 0, -1);
        CHECKS.mapDue("turn, then shift", x, x.then(quarter, shift), 0, 1, -1, -1, 0, 0, 0, 0, -1);
        due("the like one", x.then(quarter, shift), 3);
        due("all stays", x.then(x.then(quarter, quarter), x.then(quarter, quarter)), 5);
        CHECKS.mapDue("all stays", x, 5, 1, 0, 0, 0, 1, 0, 0, 0, 1);
        for (int k : Checks.NO_NUMBERS) {
            due("none, then one", x.then(k, 0), UNKNOWN);
            due("one, then none", x.then(0, k), UNKNOWN);
        }
        int wide = Checks.shift(x, 250, 0);
        due("500 has room", x.then(wide, wide), 7);
        due("750 has none", x.then(wide, 7), ROOM);
        due("nothing is changed", x.count(1), 8);
    }

    private static void turnedBack() {
        TransformRows x = new TransformRows();
        int map = Checks.any(x, 1, 2, 3, 0, 1, 4, 5, 6, 0);
        CHECKS.mapDue("back", x, x.back(map), 24, -18, -5, -20, 15, 4, 5, -4, -1);
        due("back again", x.back(1), map);
        due("there and back", x.kind(x.then(map, 1)), 0);
        int shift = Checks.shift(x, 3, -4);
        CHECKS.mapDue("a shift back", x, x.back(shift), 1, 0, -3, 0, 1, 4, 0, 0, 1);
        int narrow = Checks.any(x, 500, 1, 0, 1, 499, 0, 0, 0, 1);
        due("NO ROOM", x.back(narrow), ROOM);
        for (int k : Checks.NO_NUMBERS) {
            due("back of none", x.back(k), UNKNOWN);
        }
        due("nothing is changed", x.count(1), 6);
    }

    private static void imagesOfPoints() {
        TransformRows x = new TransformRows();
        int map = Checks.any(x, 1, 0, 0, 0, 1, 0, 1, 1, -1);
        int p = x.point(2, 3, 1);
        int far = x.point(2, 3, 0);
        CHECKS.objectDue("POINT", x, x.image(map, p), 0, 2, 3, 4);
        CHECKS.objectDue("a FAR one comes near", x, x.image(map, far), 0, 2, 3, 5);
        CHECKS.objectDue("one goes FAR", x, x.image(map, x.point(1, 2, 3)), 0, 1, 2, 0);
        due("it stays", x.image(map, x.point(3, -1, 1)), x.point(3, -1, 1));
    }

    private static void imagesOfLines() {
        TransformRows x = new TransformRows();
        int map = Checks.any(x, 1, 0, 0, 0, 1, 0, 1, 1, -1);
        CHECKS.objectDue("the FAR LINE", x, x.image(map, x.line(0, 0, 1)), 1, 1, 1, -1);
        int shift = Checks.shift(x, 1, 2);
        CHECKS.objectDue("x = 2", x, x.image(shift, x.line(1, 0, -2)), 1, 1, 0, -3);
        due("a LINE that stays", x.image(shift, x.line(2, -1, 9)), x.line(2, -1, 9));
        int shear = Checks.any(x, 1, 1, 0, 0, 1, 0, 0, 0, 1);
        CHECKS.objectDue("sheared", x, x.image(shear, x.line(1, 0, -2)), 1, 1, -1, -2);
        int stretch = Checks.made(x, 3, 1, 3, x.point(0, 0, 1));
        CHECKS.objectDue("stretched", x, x.image(stretch, x.line(1, 0, -6)), 1, 1, 0, -2);
    }

    private static void imagesOfConics() {
        TransformRows x = new TransformRows();
        int shift = Checks.shift(x, 1, 2);
        int circle = x.conic(1, 0, 1, 0, 0, -25);
        CHECKS.objectDue("a circle", x, x.image(shift, circle), 2, 1, 0, 1, -2, -4, -20);
        int map = Checks.any(x, 1, 0, 0, 0, 1, 0, 1, 1, -1);
        CHECKS.objectDue("by a projective one", x, x.image(map, x.conic(1, 0, 1, 0, 0, -1)), 2, 0, 2, 0, -2, -2, 1);
        int shear = Checks.any(x, 1, 1, 0, 0, 1, 0, 0, 0, 1);
        CHECKS.objectDue("sheared", x, x.image(shear, x.conic(0, 1, 0, 0, 0, -1)), 2, 0, 1, -1, 0, 0, -1);
        int turn = Checks.made(x, 1, 2, 1, x.point(0, 0, 1));
        due("a circle that stays", x.image(turn, circle), circle);
        int stretch = Checks.made(x, 3, 2, 1, x.point(0, 0, 1));
        CHECKS.objectDue("stretched", x, x.image(stretch, x.conic(1, 1, 1, 1, 1, 1)), 2, 1, 1, 1, 2, 2, 4);
    }

    private static void imagesRefused() {
        TransformRows x = new TransformRows();
        int shift = Checks.shift(x, 300, 0);
        int line = x.line(1, 0, -300);
        int circle = x.conic(1, 0, 1, 0, 0, -1);
        due("NO ROOM for a POINT", x.image(shift, 0), ROOM);
        due("NO ROOM for a LINE", x.image(shift, line), ROOM);
        due("NO ROOM for a CONIC", x.image(shift, circle), ROOM);
        for (int k : Checks.NO_NUMBERS) {
            due("image of none", x.image(shift, k), UNKNOWN);
            due("image by none", x.image(k, line), UNKNOWN);
        }
        due("nothing is changed", x.count(0), 3);
        for (int k = 0; k < 57; k++) {
            x.point(k, 1, 1);
        }
        due("60 OBJECTS", x.count(0), 60);
        due("60 OBJECTS, NO ROOM for one more", x.image(shift, 5), ROOM);
        int stays = x.then(shift, x.back(shift));
        due("60 OBJECTS, the like one", x.image(stays, circle), circle);
    }

    private static void kindDue(int kind, TransformRows x, int map) {
        CHECKS.holds("a MAP of kind " + kind, map >= 0);
        due("kind(" + map + ")", x.kind(map), kind);
    }

    private static void kindsOfLikenesses() {
        TransformRows x = new TransformRows();
        int o = x.point(0, 0, 1);
        int p = x.point(3, -1, 2);
        int line = x.line(1, 2, -5);
        kindDue(0, x, Checks.shift(x, 0, 0));
        kindDue(1, x, Checks.shift(x, 5, -2));
        kindDue(1, x, Checks.shift(x, 0, 1));
        kindDue(2, x, Checks.made(x, 1, 0, 1, p));
        kindDue(2, x, Checks.made(x, 3, -1, 1, o));
        kindDue(3, x, Checks.made(x, 1, 1, 1, p));
        kindDue(3, x, Checks.made(x, 1, 1, -1, o));
        kindDue(3, x, Checks.made(x, 1, 2, 1, p));
        kindDue(4, x, Checks.made(x, 3, 2, 1, p));
        kindDue(4, x, Checks.made(x, 3, -2, 1, o));
        kindDue(4, x, Checks.made(x, 3, 1, 2, o));
        kindDue(5, x, Checks.made(x, 5, 0, 0, o, x.point(1, 0, 1), x.point(1, 1, 1), x.point(1, 3, 1)));
        kindDue(5, x, Checks.made(x, 5, 0, 0, o, x.point(1, 0, 1), o, x.point(1, 1, 1)));
        kindDue(6, x, Checks.made(x, 2, 0, 0, line));
        kindDue(6, x, Checks.any(x, 0, 1, 1, 1, 0, -1, 0, 0, 1));
        kindDue(7, x, Checks.made(x, 4, 1, 2, line));
        kindDue(7, x, Checks.any(x, 0, 1, 1, 1, 0, 0, 0, 0, 1));
        kindDue(8, x, Checks.any(x, 0, 2, 1, 2, 0, 1, 0, 0, 1));
        kindDue(8, x, x.then(Checks.made(x, 2, 0, 0, line), Checks.made(x, 3, 2, 1, o)));
        for (int k : Checks.NO_NUMBERS) {
            due("kind of none", x.kind(k), UNKNOWN);
        }
    }

    private static void kindsOfOtherAffineOnes() {
        TransformRows x = new TransformRows();
        kindDue(9, x, Checks.any(x, 1, 1, 0, 0, 1, 0, 0, 0, 1));
        kindDue(9, x, Checks.any(x, 1, 1, 3, 0, 1, 0, 0, 0, 1));
        kindDue(9, x, Checks.any(x, 1, 0, 0, 1, 1, 2, 0, 0, 1));
        kindDue(10, x, Checks.any(x, 2, 0, 1, 0, 1, 0, 0, 0, 1));
        kindDue(10, x, Checks.any(x, 1, 0, 0, 1, 3, 7, 0, 0, 1));
        kindDue(10, x, Checks.any(x, 2, 1, 0, 1, 2, 0, 0, 0, 1));
        // Areas stay, but all is turned over, slantwise: (x, y) goes to (x + y, -y).
        int o = x.point(0, 0, 1);
        int e = x.point(1, 0, 1);
        kindDue(10, x, Checks.made(x, 6, 0, 0, o, e, x.point(0, 1, 1), o, e, x.point(1, -1, 1)));
        kindDue(11, x, Checks.any(x, 1, 1, 0, 0, 1, 1, 0, 0, 1));
        kindDue(11, x, Checks.any(x, 2, 1, 0, 1, 1, 0, 0, 0, 1));
        kindDue(11, x, Checks.any(x, 1, 1, 0, 1, 0, 0, 0, 0, 1));
        // (x, y) goes to (2 x, y / 2).
        kindDue(11, x, Checks.made(x, 6, 0, 0, o, e, x.point(0, 2, 1), o, x.point(2, 0, 1), x.point(0, 1, 1)));
        kindDue(12, x, Checks.any(x, 3, 1, 0, 1, 2, 0, 0, 0, 1));
        kindDue(12, x, Checks.any(x, 2, 0, 1, 0, 1, 1, 0, 0, 1));
        kindDue(12, x, Checks.any(x, 1, 2, 0, 2, 1, 5, 0, 0, 1));
    }

    private static void kindsOfProjectiveOnes() {
        TransformRows x = new TransformRows();
        kindDue(13, x, Checks.any(x, 1, 0, 0, 1, 2, -1, 1, 1, 0));
        kindDue(13, x, Checks.any(x, 1, 0, 0, 0, 1, 0, 1, 0, 1));
        kindDue(13, x, Checks.any(x, 1, 0, 0, 0, 1, 0, 0, 1, 1));
        kindDue(14, x, Checks.any(x, 1, 0, 0, 0, 1, 0, 1, 1, -1));
        kindDue(14, x, Checks.any(x, 0, 0, 1, 0, 1, 0, 1, 0, 0));
        kindDue(15, x, Checks.any(x, 1, 0, 0, 0, 1, 0, 1, 1, 3));
        kindDue(15, x, Checks.any(x, 1, 0, 0, 0, 1, 0, 1, 1, -3));
        kindDue(15, x, Checks.any(x, 2, 1, 1, 1, 2, 1, 1, 1, 2));
        kindDue(16, x, Checks.any(x, 0, 0, 1, 1, 0, 0, 0, 1, 0));
        kindDue(16, x, Checks.any(x, 1, 0, 0, 0, 1, 1, 1, 0, 1));
        kindDue(16, x, Checks.any(x, 0, 0, 1, 1, 0, 1, 0, 1, 0));
        kindDue(16, x, Checks.any(x, 1, 0, 0, 1, 2, 0, 1, 1, 3));
    }

    private static void ownDue(TransformRows x, int map, long... values) {
        CHECKS.holds("a MAP", map >= 0);
        for (int k = 0; k < 4; k++) {
            due("own(" + map + ", " + k + ")", x.own(map, k), k < values.length ? values[k] : NONE);
        }
        due("own(" + map + ", -1)", x.own(map, -1), NONE);
        due("own, lowest", x.own(map, Integer.MIN_VALUE), NONE);
        due("own, highest", x.own(map, Integer.MAX_VALUE), NONE);
    }

    private static void ownValues() {
        TransformRows x = new TransformRows();
        ownDue(x, Checks.shift(x, 0, 0), 1);
        ownDue(x, Checks.shift(x, 5, 7), 1);
        ownDue(x, Checks.any(x, 1, 0, 0, 1, 2, 0, 1, 1, 3), 1, 2, 3);
        ownDue(x, Checks.any(x, 0, 1, 0, 1, 0, 0, 0, 0, 1), -1, 1);
        ownDue(x, Checks.any(x, 1, 1, 0, 1, 0, 0, 0, 0, 1), 1);
        ownDue(x, Checks.any(x, 5, 0, 1, 0, 1, 0, 0, 0, 1), 1, 5);
        ownDue(x, Checks.any(x, 1, 0, 0, 1, 7, 0, 0, 0, 1), 1, 7);
        ownDue(x, Checks.any(x, 1, 0, 0, 0, 1, 0, 0, 1, -9), -9, 1);
        ownDue(x, Checks.any(x, 0, 4, 1, 0, 1, 0, 1, 0, 0), -1, 1);
        ownDue(x, Checks.any(x, 1, 3, 0, 3, 1, 0, 0, 0, 1), -2, 1, 4);
        ownDue(x, Checks.any(x, 0, 0, 1, 1, 0, 1, 0, 1, 0));
        ownDue(x, Checks.any(x, 500, 500, 499, 500, 499, 500, 499, 500, 500), -1, 1, 1499);
        // Of the LEAST table, not of another one: (1 / 2) of all that stays is LEAST (1, 1, 2).
        ownDue(x, Checks.made(x, 3, 2, 4, x.point(0, 0, 1)), 1, 2);
        ownDue(x, Checks.made(x, 3, -4, 2, x.point(0, 0, 1)), -1, 2);
        for (int k : Checks.NO_NUMBERS) {
            due("own value of none", x.own(k, 0), NONE);
        }
    }

    private static void fixedOnes() {
        TransformRows x = new TransformRows();
        int map = Checks.any(x, 1, 0, 0, 1, 2, 0, 1, 1, 3);
        CHECKS.objectDue("by 1", x, x.fixed(map, 0), 0, 1, -1, 0);
        CHECKS.objectDue("by 2", x, x.fixed(map, 1), 0, 0, 1, -1);
        CHECKS.objectDue("by 3", x, x.fixed(map, 2), 0, 0, 0, 1);
        int shift = Checks.shift(x, 2, 3);
        CHECKS.objectDue("by a shift", x, x.fixed(shift, 0), 1, 0, 0, 1);
        int mirror = Checks.made(x, 2, 0, 0, x.line(3, 4, -25));
        CHECKS.objectDue("by a mirror, -25", x, x.fixed(mirror, 0), 0, 3, 4, 0);
        CHECKS.objectDue("by a mirror, 25", x, x.fixed(mirror, 1), 1, 3, 4, -25);
        int shear = Checks.any(x, 1, 1, 3, 0, 1, 0, 0, 0, 1);
        CHECKS.objectDue("by a shear", x, x.fixed(shear, 0), 1, 0, 1, 3);
        int wide = Checks.any(x, 500, 500, 499, 500, 499, 500, 499, 500, 500);
        CHECKS.objectDue("by -1", x, x.fixed(wide, 0), 0, 1, -2, 1);
        CHECKS.objectDue("by 1", x, x.fixed(wide, 1), 0, 1, 0, -1);
        CHECKS.objectDue("by 1499", x, x.fixed(wide, 2), 0, 1, 1, 1);
        int before = x.count(0);
        due("the like one", x.fixed(wide, 2), before - 1);
        due("nothing is new", x.count(0), before);
    }

    private static void fixedRefused() {
        TransformRows x = new TransformRows();
        int stays = Checks.shift(x, 0, 0);
        int mirror = Checks.any(x, 0, 1, 0, 1, 0, 0, 0, 0, 1);
        due("all", x.fixed(stays, 0), WRONG);
        due("all, and not so many", x.fixed(stays, 1), OUTSIDE);
        for (int k : new int[] {-1, 2, Integer.MIN_VALUE, Integer.MAX_VALUE}) {
            due("not so many", x.fixed(mirror, k), OUTSIDE);
            due("UNKNOWN comes first", x.fixed(2, k), UNKNOWN);
        }
        int none = Checks.any(x, 0, 0, 1, 1, 0, 1, 0, 1, 0);
        due("no OWN VALUES", x.fixed(none, 0), OUTSIDE);
        // The POINT by 1 would be (1, -499, 248501).
        int steep = Checks.any(x, 1, 0, 0, 499, 2, 0, 500, 499, 2);
        due("1 is first", x.own(steep, 0), 1);
        int before = x.count(0);
        due("NO ROOM", x.fixed(steep, 0), ROOM);
        due("nothing is changed", x.count(0), before);
        for (int k = before; k < 60; k++) {
            x.point(k, 7, 1);
        }
        due("60 OBJECTS", x.count(0), 60);
        due("60 OBJECTS, NO ROOM for one more", x.fixed(mirror, 0), ROOM);
        due("60 OBJECTS, all", x.fixed(stays, 0), WRONG);
    }

    private static void orders() {
        TransformRows x = new TransformRows();
        int stays = Checks.shift(x, 0, 0);
        int mirror = Checks.made(x, 2, 0, 0, x.line(1, 2, -5));
        int thrice = Checks.any(x, 0, 0, 1, 1, 0, 0, 0, 1, 0);
        int quarter = Checks.made(x, 1, 1, 1, x.point(3, 4, 1));
        int o = x.point(0, 0, 1);
        int e = x.point(1, 0, 1);
        int six = Checks.made(x, 6, 0, 0, o, e, x.point(0, 1, 1), o, x.point(1, 1, 1), x.point(-1, 0, 1));
        int[][] orders = {{stays, 1}, {mirror, 2}, {thrice, 3}, {quarter, 4}, {six, 6}};
        for (int[] of : orders) {
            due("order(" + of[0] + ", 60)", x.order(of[0], 60), of[1]);
            due("just so often", x.order(of[0], of[1]), of[1]);
            if (of[1] > 1) {
                due("not so often", x.order(of[0], of[1] - 1), 0);
            }
        }
        due("a shift", x.order(Checks.shift(x, 1, 0), 60), 0);
        for (int i : new int[] {1, 2, 3, 5, 6, 7}) {
            int[] t = {1, 0, 0, 0, 1, 0, 0, 0, 1};
            t[i] = 1;
            due("all stays but for cell " + i, x.order(Checks.any(x, t), 60), 0);
        }
        due("a shift soon without room", x.order(Checks.shift(x, 400, 0), 60), 0);
        due("a turn by no part of a whole", x.order(Checks.made(x, 1, 2, 1, o), 60), 0);
        // Four times is all, but for what it is done twice, by half around (300, 0), there is no room.
        due("NO ROOM on the way", x.order(Checks.made(x, 1, 1, 1, x.point(300, 0, 1)), 60), 0);
        int before = x.count(1);
        x.order(six, 60);
        due("no MAP is new", x.count(1), before);
    }

    private static void ordersRefused() {
        TransformRows x = new TransformRows();
        int stays = Checks.shift(x, 0, 0);
        due("most 1", x.order(stays, 1), 1);
        due("most 60", x.order(stays, 60), 1);
        for (int most : new int[] {0, 61, -1, Integer.MIN_VALUE, Integer.MAX_VALUE}) {
            due("most " + most, x.order(stays, most), OUTSIDE);
            due("UNKNOWN comes first", x.order(1, most), UNKNOWN);
        }
        for (int k : Checks.NO_NUMBERS) {
            due("order of none", x.order(k, 5), UNKNOWN);
        }
    }
}
