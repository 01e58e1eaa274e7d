/** Promises 21 to 24, sentence by sentence: the last that is taken, the first that is refused. */
public final class GroupsEdgesTest {
    private static final int UNKNOWN = Checks.UNKNOWN, OUTSIDE = Checks.OUTSIDE, WRONG = Checks.WRONG,
            ROOM = Checks.ROOM;
    private static final int CORNER = Starts.CORNER, QUARTER = Starts.QUARTER, MIRROR = Starts.MIRROR,
            SHIFT = Starts.SHIFT;
    private static final int[] STAYS = {1, 0, 0, 0, 1, 0, 0, 0, 1};
    private static final Checks CHECKS = new Checks("GroupsEdgesTest");
    private static final Refused REFUSED = new Refused(CHECKS);

    public static void main(String[] args) {
        seedsUpTo4();
        fifthSeed();
        seedsOfNone();
        groupsBeyond();
        groupOfNoSeeds();
        groupWithMost1();
        groupJustSoMany();
        groupOf48();
        seedsInOrder();
        groupUpTo500();
        groupBeyond500();
        groupWithoutRoomInOrder();
        groupWithoutRoomBehindMost();
        noSeedsAnyMore();
        groupsNeedNoMaps();
        elementsBeforeAGroup();
        elementsAtTheirEnds();
        elementsBeyond();
        elementsOfTheLatest();
        amongBeforeAGroup();
        amongAtItsEnds();
        amongNone();
        CHECKS.end();
    }

    private static void due(String call, long got, long want) {
        CHECKS.due(call, got, want);
    }

    /** No SEEDS, and MAP 2 a shift by so much across. */
    private static TransformRows withShift(int across) {
        TransformRows x = new TransformRows();
        Starts.some(x);
        x.group(48);
        Checks.shift(x, across, 0);
        return x;
    }

    /** What group answers for these SEEDS. */
    private static int group(TransformRows x, int most, int... seeds) {
        for (int k = 0; k < seeds.length; k++) {
            due("seed", x.seed(seeds[k]), k + 1);
        }
        return x.group(most);
    }

    /** Just so many elements stand. */
    private static void standing(String what, TransformRows x, int many) {
        CHECKS.holds(what + ": the last stands", x.element(many - 1, 0) != OUTSIDE);
        due(what + ": no more stand", x.element(many, 0), OUTSIDE);
    }

    private static void shiftAt(String what, TransformRows x, int k, int across) {
        CHECKS.elementDue(what, x, k, 1, 0, across, 0, 1, 0, 0, 0, 1);
    }

    // ---- Promise 21

    /** "A MAP is one of THE SEEDS, behind those before: how many." Up to 4. */
    private static void seedsUpTo4() {
        TransformRows x = withShift(10);
        int[] four = {SHIFT, QUARTER, MIRROR, SHIFT};
        for (int k = 0; k < 4; k++) {
            due("seed " + k, x.seed(four[k]), k + 1);
        }
        due("the fourth counts, too", x.group(4), 0);
        shiftAt("the first seed's", x, 1, 10);
        CHECKS.elementDue("the second's", x, 2, 0, 1, 0, -1, 0, 0, 0, 0, -1);
        CHECKS.elementDue("the third's", x, 3, 1, 0, 0, 0, -1, 0, 0, 0, 1);
        TransformRows y = withShift(10);
        due("by the fourth alone", group(y, 5, QUARTER, QUARTER, QUARTER, SHIFT), 0);
        shiftAt("the fourth's", y, 2, 10);
    }

    private static void fourSeeds(TransformRows x) {
        Starts.maps(x, 5);
        x.seed(QUARTER);
        x.seed(3);
        x.seed(4);
        x.give(CORNER);
    }

    /** "ROOM: there are 4." */
    private static void fifthSeed() {
        for (int map : new int[] {QUARTER, MIRROR, SHIFT, 4}) {
            REFUSED.due("the fifth", GroupsEdgesTest::fourSeeds, x -> x.seed(map), ROOM);
        }
        for (int none : new int[] {5, -1, 40, Integer.MIN_VALUE, Integer.MAX_VALUE}) {
            REFUSED.due("the fifth, UNKNOWN comes first", GroupsEdgesTest::fourSeeds, x -> x.seed(none), UNKNOWN);
        }
    }

    /** "UNKNOWN." */
    private static void seedsOfNone() {
        for (int k : Checks.NO_NUMBERS) {
            REFUSED.due("seed of " + k, Starts::given, x -> x.seed(k), UNKNOWN);
        }
        REFUSED.due("the next one", Starts::given, x -> x.seed(Starts.MAPS), UNKNOWN);
        REFUSED.due("of 40, the next one", Starts::fortyMapsGiven, x -> x.seed(40), UNKNOWN);
        TransformRows x = new TransformRows();
        Starts.fortyMaps(x);
        due("of 40, the last one", x.seed(39), 2);
    }

    // ---- Promise 22

    /** "most (1 .. 48)", "OUTSIDE.": then THE GROUP and THE SEEDS stay. */
    private static void groupsBeyond() {
        for (int most : new int[] {0, 49, -1, Integer.MIN_VALUE, Integer.MAX_VALUE}) {
            REFUSED.due("group(" + most + ")", Starts::given, x -> x.group(most), OUTSIDE);
            REFUSED.due("group(" + most + ")", GroupsEdgesTest::fourSeeds, x -> x.group(most), OUTSIDE);
            REFUSED.due("group(" + most + ")", Starts::nothing, x -> x.group(most), OUTSIDE);
        }
    }

    /** "all that stays comes first" */
    private static void groupOfNoSeeds() {
        for (int most : new int[] {1, 2, 48}) {
            TransformRows x = withShift(1);
            due("no SEEDS", x.group(most), 1);
            CHECKS.elementDue("no SEEDS", x, 0, STAYS);
            standing("no SEEDS", x, 1);
        }
        TransformRows x = new TransformRows();
        due("no SEEDS ever", x.group(1), 1);
        standing("no SEEDS ever", x, 1);
    }

    /** "How many there are, most (1 .. 48) at most": the least most. */
    private static void groupWithMost1() {
        TransformRows x = withShift(0);
        due("of all that stays", group(x, 1, 2), 1);
        due("of all that stays, four times", group(x, 1, 2, 2, 2, 2), 1);
        standing("of all that stays", x, 1);
        TransformRows y = withShift(1);
        due("of a shift", group(y, 1, 2), 0);
        standing("of a shift", y, 1);
        CHECKS.elementDue("of a shift", y, 0, STAYS);
    }

    /** "0: there would be more (the first so many stand)": of 2, 4, 8, 24, just so many, one less, one more. */
    private static void groupJustSoMany() {
        int[][] seeds = {{MIRROR}, {QUARTER}, {QUARTER, MIRROR}, {QUARTER, 2}};
        int[] sizes = {2, 4, 8, 24};
        for (int i = 0; i < sizes.length; i++) {
            TransformRows x = new TransformRows();
            Starts.some(x);
            x.group(48);
            Checks.any(x, 0, 0, 1, 1, 0, 0, 0, 1, 0);
            due("just so many", group(x, sizes[i], seeds[i]), sizes[i]);
            standing("just so many", x, sizes[i]);
            due("one less", group(x, sizes[i] - 1, seeds[i]), 0);
            standing("one less", x, sizes[i] - 1);
            due("one more", group(x, sizes[i] + 1, seeds[i]), sizes[i]);
            standing("one more", x, sizes[i]);
            due("48", group(x, 48, seeds[i]), sizes[i]);
        }
    }

    /** "most (1 .. 48)": the last most, with as many elements. */
    private static void groupOf48() {
        for (int most : new int[] {47, 48}) {
            TransformRows x = withShift(10);
            due("without end", group(x, most, SHIFT), 0);
            for (int k = 0; k < 25; k++) {
                due("element " + k, x.element(k, 2), 1000 + 10 * k);
            }
            shiftAt("the last", x, most - 1, 10 * (most - 1));
            standing("the last", x, most);
        }
    }

    /** "of what is there, one by one, it, then each SEED in order; what is not there yet comes behind" */
    private static void seedsInOrder() {
        TransformRows x = withShift(1);
        due("a quarter, then a shift", group(x, 6, QUARTER, SHIFT), 0);
        CHECKS.elementDue("stays, then the quarter", x, 1, 0, 1, 0, -1, 0, 0, 0, 0, -1);
        shiftAt("stays, then the shift", x, 2, 1);
        CHECKS.elementDue("the quarter, then the quarter", x, 3, 1, 0, 0, 0, 1, 0, 0, 0, -1);
        // (x, y) goes to (1 - y, x), and not to (-y, x + 1).
        CHECKS.elementDue("the quarter, then the shift", x, 4, 0, 1, -1, -1, 0, 0, 0, 0, -1);
        CHECKS.elementDue("the shift, then the quarter", x, 5, 0, 1, 0, -1, 0, -1, 0, 0, -1);
        TransformRows y = withShift(1);
        due("a shift, then a quarter", group(y, 4, SHIFT, QUARTER), 0);
        shiftAt("stays, then the shift", y, 1, 1);
        CHECKS.elementDue("stays, then the quarter", y, 2, 0, 1, 0, -1, 0, 0, 0, 0, -1);
        shiftAt("the shift, then the shift", y, 3, 2);
    }

    /** "ROOM: there was NO ROOM for one (those before it stand).": 500 has room. */
    private static void groupUpTo500() {
        for (int sign : new int[] {1, -1}) {
            TransformRows x = withShift(sign * 250);
            due("up to 500", group(x, 48, SHIFT), ROOM);
            CHECKS.elementDue("up to 500", x, 0, STAYS);
            shiftAt("up to 500", x, 1, sign * 250);
            shiftAt("up to 500", x, 2, sign * 500);
            standing("up to 500", x, 3);
            TransformRows y = withShift(sign * 500);
            due("500 itself", group(y, 48, SHIFT), ROOM);
            shiftAt("500 itself", y, 1, sign * 500);
            standing("500 itself", y, 2);
            due("there would be more first", group(y, 1, SHIFT), 0);
            standing("there would be more first", y, 1);
        }
    }

    /** "ROOM: there was NO ROOM for one": 3 times 167 is 501. */
    private static void groupBeyond500() {
        for (int sign : new int[] {1, -1}) {
            TransformRows x = withShift(sign * 167);
            due("501", group(x, 48, SHIFT), ROOM);
            shiftAt("before 501", x, 2, sign * 334);
            standing("before 501", x, 3);
            due("no MAP is new", x.count(1), 3);
            due("no OBJECT is new", x.count(0), Starts.OBJECTS + 1);
        }
    }

    /** "(those before it stand)": by the order of the SEEDS. */
    private static void groupWithoutRoomInOrder() {
        TransformRows x = withShift(300);
        due("the shift first", group(x, 48, SHIFT, MIRROR), ROOM);
        shiftAt("the shift first", x, 1, 300);
        CHECKS.elementDue("the shift first", x, 2, 1, 0, 0, 0, -1, 0, 0, 0, 1);
        standing("the shift first", x, 3);
        due("the mirror first", group(x, 48, MIRROR, SHIFT), ROOM);
        CHECKS.elementDue("the mirror first", x, 1, 1, 0, 0, 0, -1, 0, 0, 0, 1);
        shiftAt("the mirror first", x, 2, 300);
        CHECKS.elementDue("the mirror, then the shift", x, 3, 1, 0, 300, 0, -1, 0, 0, 0, 1);
        standing("the mirror first", x, 4);
    }

    /** Of "0: there would be more" and "ROOM", what comes first: one that is there is looked at, one by one. */
    private static void groupWithoutRoomBehindMost() {
        TransformRows x = withShift(300);
        due("the next one has NO ROOM", group(x, 2, SHIFT), ROOM);
        shiftAt("the next one has NO ROOM", x, 1, 300);
        standing("the next one has NO ROOM", x, 2);
        due("one that is not there comes first", group(x, 2, SHIFT, MIRROR), 0);
        standing("one that is not there comes first", x, 2);
        due("of 3, the next one has NO ROOM", group(x, 3, SHIFT, MIRROR), ROOM);
        standing("of 3, the next one has NO ROOM", x, 3);
        TransformRows y = withShift(500);
        due("one that is there, then NO ROOM", group(y, 2, SHIFT, SHIFT), ROOM);
        standing("one that is there, then NO ROOM", y, 2);
    }

    /** "No SEEDS are there any more.": after all, after 0, after ROOM. */
    private static void noSeedsAnyMore() {
        TransformRows x = withShift(300);
        due("all", group(x, 48, QUARTER, MIRROR), 8);
        due("none are left", x.group(48), 1);
        due("0", group(x, 3, QUARTER, MIRROR), 0);
        due("none are left", x.group(48), 1);
        due("ROOM", group(x, 48, SHIFT, MIRROR, QUARTER, QUARTER), ROOM);
        due("none are left", x.group(48), 1);
        due("the first one again", x.seed(MIRROR), 1);
        due("and no other", x.group(48), 2);
    }

    /** THE GROUP is made of no MAPS: it does with 40 of them, and with 60 OBJECTS. */
    private static void groupsNeedNoMaps() {
        TransformRows x = new TransformRows();
        Starts.fortyMaps(x);
        x.seed(QUARTER);
        due("40 MAPS", x.group(48), 8);
        due("40 MAPS", x.count(1), 40);
        TransformRows y = new TransformRows();
        Starts.sixtyObjects(y);
        y.seed(QUARTER);
        due("60 OBJECTS", y.group(48), 8);
        due("THE ROW stays", y.count(2), 1);
        REFUSED.same("group, but for THE SEEDS and THE GROUP", z -> {
            Starts.given(z);
            z.group(48);
            z.seed(QUARTER);
            z.seed(MIRROR);
            z.group(48);
            z.seed(MIRROR);
        }, Starts::given);
    }

    // ---- Promise 23

    /** "(of all that stays alone, before one)" */
    private static void elementsBeforeAGroup() {
        TransformRows x = new TransformRows();
        CHECKS.elementDue("before one", x, 0, STAYS);
        due("alone", x.element(1, 0), OUTSIDE);
        x.seed(Checks.shift(x, 1, 0));
        CHECKS.elementDue("a SEED is no GROUP yet", x, 0, STAYS);
        due("a SEED is no GROUP yet", x.element(1, 0), OUTSIDE);
        for (int k : new int[] {1, 47, 48, -1, Integer.MIN_VALUE, Integer.MAX_VALUE}) {
            REFUSED.due("element(" + k + ", 0)", Starts::nothing, y -> y.element(k, 0), OUTSIDE);
        }
    }

    /** "NUMBER i of element k .. , and 1000." The first and the last, from 500 to 1500. */
    private static void elementsAtTheirEnds() {
        REFUSED.due("the first of the first", Starts::given, x -> x.element(0, 0), 1001);
        REFUSED.due("the last of the first", Starts::given, x -> x.element(0, 8), 1001);
        REFUSED.due("the first of the last", Starts::given, x -> x.element(7, 0), 1001);
        REFUSED.due("the last of the last", Starts::given, x -> x.element(7, 8), 999);
        for (int sign : new int[] {1, -1}) {
            TransformRows x = withShift(sign * 500);
            group(x, 2, SHIFT);
            due("500 in size", x.element(1, 2), 1000 + sign * 500);
        }
    }

    /** "OUTSIDE." */
    private static void elementsBeyond() {
        for (int i : new int[] {-1, 9, Integer.MIN_VALUE, Integer.MAX_VALUE}) {
            for (int k : new int[] {0, 7, 8, -1}) {
                REFUSED.due("element(" + k + ", " + i + ")", Starts::given, x -> x.element(k, i), OUTSIDE);
            }
        }
        for (int k : new int[] {8, 47, 48, -1, Integer.MIN_VALUE, Integer.MAX_VALUE, 477218589}) {
            for (int i : new int[] {0, 8}) {
                REFUSED.due("element(" + k + ", " + i + ")", Starts::given, x -> x.element(k, i), OUTSIDE);
            }
        }
    }

    /** "of the latest THE GROUP": a smaller one leaves nothing of the one before. */
    private static void elementsOfTheLatest() {
        TransformRows x = new TransformRows();
        Starts.some(x);
        standing("the first", x, 8);
        due("of the SEED", x.group(48), 2);
        standing("the latest", x, 2);
        CHECKS.elementDue("the latest", x, 1, 1, 0, 0, 0, -1, 0, 0, 0, 1);
        due("the one before", x.among(QUARTER), WRONG);
        due("OUTSIDE", x.group(49), OUTSIDE);
        standing("after OUTSIDE, the same", x, 2);
        due("of none", x.group(48), 1);
        standing("of none", x, 1);
        due("the one before", x.among(MIRROR), WRONG);
    }

    // ---- Promise 24

    /** Before a GROUP there is all that stays. */
    private static void amongBeforeAGroup() {
        TransformRows x = new TransformRows();
        due("all that stays", x.among(Checks.shift(x, 0, 0)), 0);
        due("another one", x.among(Checks.shift(x, 1, 0)), WRONG);
        x.seed(1);
        due("a SEED is no GROUP yet", x.among(1), WRONG);
        due("of 2", x.group(2), 0);
        due("it is now", x.among(1), 1);
    }

    /** "The number of the element of THE GROUP that a MAP is.": the first, the last that stands, the next. */
    private static void amongAtItsEnds() {
        TransformRows x = new TransformRows();
        Starts.maps(x, 6);
        x.group(48);
        int stays = Checks.shift(x, 0, 0);
        due("without end", group(x, 4, SHIFT), 0);
        due("the first", x.among(stays), 0);
        due("the second", x.among(2), 1);
        due("the last that stands", x.among(4), 3);
        due("there would be more", x.among(5), WRONG);
        TransformRows y = withShift(250);
        int last = y.then(SHIFT, SHIFT);
        due("ROOM", group(y, 48, SHIFT), ROOM);
        due("the last that stands", y.among(last), 2);
        REFUSED.due("a question changes nothing", Starts::given, z -> z.among(QUARTER), 1);
        REFUSED.due("a question changes nothing", Starts::given, z -> z.among(MIRROR), 2);
    }

    /** "UNKNOWN; WRONG: none." */
    private static void amongNone() {
        for (int k : Checks.NO_NUMBERS) {
            REFUSED.due("among of " + k, Starts::given, x -> x.among(k), UNKNOWN);
        }
        REFUSED.due("the next one", Starts::given, x -> x.among(Starts.MAPS), UNKNOWN);
        REFUSED.due("of 40, the next one", Starts::fortyMapsGiven, x -> x.among(40), UNKNOWN);
        REFUSED.due("of 40, the last one", Starts::fortyMapsGiven, x -> x.among(39), WRONG);
        REFUSED.due("none", x -> {
            Starts.maps(x, 3);
            x.give(CORNER);
        }, x -> x.among(SHIFT), WRONG);
    }
}
