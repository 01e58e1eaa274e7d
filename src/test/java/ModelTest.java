import java.util.ArrayList;
import java.util.Arrays;
import java.util.List;
import java.util.Random;

/** Long runs of calls, the same ones each time, on TransformRows and on Model. */
public final class ModelTest {
    private static final int RUNS = 3000;
    /** With the last step and the last look, an object is used for 512 calls at most. */
    private static final int CALLS = 370;
    private static final int LOOKS = 29;
    private static final int[] SCALES = {1, 2, 4, 9, 30, 120, 500};
    private static final int[] ODD = {Integer.MIN_VALUE, Integer.MAX_VALUE, -1, 0, 1, 2, 3, 6, 7, 8, 9, 39, 40, 48, 49,
        59, 60, 61, 500, 501, -500, -501, 1000, 1001, -1000, -1001};

    private final Checks checks = new Checks("ModelTest");
    private final long[] kindsSeen = new long[17];
    private final long[] made = new long[9];
    private final long[] groupsSeen = new long[50];
    private final long[] ordersSeen = new long[61];
    private final long[] shapesSeen = new long[6];
    private final List<String> log = new ArrayList<>();
    private Random random;
    private TransformRows rows;
    private Model model;
    private int scale;
    private int calls;

    public static void main(String[] args) {
        new ModelTest().runAll(args.length > 0 ? Integer.parseInt(args[0]) : RUNS);
    }

    private void runAll(int runs) {
        for (int run = 0; run < runs && checks.wrongOnes() == 0; run++) {
            random = new Random(run);
            rows = new TransformRows();
            model = new Model();
            scale = SCALES[random.nextInt(SCALES.length)];
            calls = 0;
            log.clear();
            while (calls < CALLS && checks.wrongOnes() == 0) {
                step();
            }
            lookAround();
            if (checks.wrongOnes() != 0) {
                System.out.println("run " + run + ":");
                log.forEach(System.out::println);
            }
        }
        if (runs >= RUNS) {
            everythingWasSeen();
        }
        checks.end();
    }

    /** A comparison that never meets a case would tell nothing about it. */
    private void everythingWasSeen() {
        for (int size : new int[] {0, 1, 2, 3, 4, 6, 8, 24, 49}) {
            checks.holds("a group of " + size + " was seen (49: NO ROOM)", groupsSeen[size] > 0);
        }
        for (int times : new int[] {0, 1, 2, 3, 4, 6}) {
            checks.holds("an order of " + times + " was seen", ordersSeen[times] > 0);
        }
        for (long[] seen : new long[][] {kindsSeen, made, shapesSeen}) {
            for (int i = 0; i < seen.length; i++) {
                checks.holds("case " + i + " of " + Arrays.toString(seen) + " was seen", seen[i] > 0);
            }
        }
    }

    private void step() {
        switch (random.nextInt(24)) {
            case 0, 1 -> call("point", any(), any(), any());
            case 2 -> call("line", any(), any(), any());
            case 3 -> call("conic", any(), any(), any(), any(), any(), any());
            case 4 -> call("number", object(), index());
            case 5 -> call("join", object(), object());
            case 6 -> call("on", object(), object());
            case 7 -> call("shape", object());
            case 8 -> call("cross", object(), object(), object(), object(), odd(random.nextInt(2)));
            case 9 -> call("give", object());
            case 10, 11, 12 -> makeSome();
            case 13 -> call("count", odd(random.nextInt(3)));
            case 14 -> call("entry", map(), index());
            case 15 -> call("then", map(), map());
            case 16 -> call("back", map());
            case 17, 18 -> call("image", map(), object());
            case 19 -> call("kind", map());
            case 20 -> call("own", map(), odd(random.nextInt(4)));
            case 21 -> call("fixed", map(), odd(random.nextInt(3)));
            case 22 -> call("order", map(), odd(1 + random.nextInt(60)));
            default -> groups();
        }
    }

    private void groups() {
        int many = random.nextInt(4);
        for (int i = 0; i < many; i++) {
            call("seed", map());
        }
        if (random.nextInt(3) != 0) {
            call("group", odd(random.nextInt(3) == 0 ? 1 + random.nextInt(48) : 48));
        }
        call("element", odd(random.nextInt(48)), index());
        call("among", map());
    }

    private void makeSome() {
        int kind = odd(random.nextInt(9), 40);
        switch (random.nextInt(9)) {
            case 8 -> otherPlaces();
            case 0 -> perspective();
            case 1 -> shearOrStrain();
            case 2 -> fromImages();
            case 3 -> fourOnALine();
            default -> {
                int[] many = {1, 1, 1, 1, 1, 4, 6, 8, 3};
                int wanted = kind == 2 || kind == 4 || kind == 8 ? 1 : 0;
                int need = kind < 0 || kind > 8 ? 1 : many[kind];
                for (int i = 0; i < need; i++) {
                    call("give", random.nextInt(30) == 0 ? object() : ofSort(wanted));
                }
                int most = random.nextBoolean() ? 3 : 1000;
                make(kind, odd(random.nextInt(2 * most + 1) - most, 40), odd(random.nextInt(2 * most + 1) - most, 40));
            }
        }
    }

    /** A table that fixes all of a line: z times all that stays, and a product of two rows. */
    private void perspective() {
        int z = 1 + random.nextInt(3);
        int[] centre = {random.nextInt(5) - 2, random.nextInt(5) - 2, random.nextInt(5) - 2};
        int[] axis = {random.nextInt(5) - 2, random.nextInt(5) - 2, random.nextInt(5) - 2};
        lines(z, centre, axis);
    }

    /** Puts the numbers of a row into other places, so that even the largest rows have images. */
    private void otherPlaces() {
        clearRow();
        int turn = random.nextInt(3);
        int way = random.nextBoolean() ? 1 : 2;
        for (int i = 0; i < 3; i++) {
            int[] line = {0, 0, 0};
            line[(turn + way * i) % 3] = 1;
            call("give", (int) call("line", line[0], line[1], line[2]));
        }
        make(8, 0, 0);
    }

    private void shearOrStrain() {
        int[] centre = {random.nextInt(5) - 2, random.nextInt(5) - 2, 0};
        int[] axis = {random.nextInt(7) - 3, random.nextInt(7) - 3, random.nextInt(7) - 3};
        lines(1 + random.nextInt(2), centre, axis);
    }

    private void lines(int z, int[] centre, int[] axis) {
        clearRow();
        for (int i = 0; i < 3; i++) {
            int[] line = {centre[i] * axis[0], centre[i] * axis[1], centre[i] * axis[2]};
            line[i] += z;
            call("give", (int) call("line", line[0], line[1], line[2]));
        }
        make(8, 0, 0);
    }

    /** What a map takes points to, given with them, must make the map again, if it has room. */
    private void fromImages() {
        int map = map();
        int many = new int[] {2, 3, 4}[random.nextInt(3)];
        int[] from = new int[many];
        int[] to = new int[many];
        for (int i = 0; i < many; i++) {
            from[i] = ofSort(0);
            to[i] = (int) call("image", map, from[i]);
        }
        clearRow();
        for (int i = 0; i < 2 * many; i++) {
            call("give", i < many ? from[i] : to[i - many]);
        }
        make(many + 3, 0, 0);
    }

    private void fourOnALine() {
        int[] p = {any(), any(), any()};
        int[] q = {any(), any(), any()};
        int[] four = new int[4];
        for (int i = 0; i < 4; i++) {
            int a = random.nextInt(7) - 3;
            int b = random.nextInt(7) - 3;
            four[i] = (int) call("point", a * p[0] + b * q[0], a * p[1] + b * q[1], a * p[2] + b * q[2]);
        }
        call("cross", four[0], four[1], four[2], four[3], 0);
        call("cross", four[0], four[1], four[2], four[3], 1);
        call("cross", four[2], four[1], four[2], four[3], random.nextInt(2));
        call("cross", four[3], four[1], four[2], four[3], random.nextInt(2));
    }

    private void clearRow() {
        if (model.count(2) > 0) {
            make(random.nextInt(9), 1, 1);
        }
    }

    private void make(int kind, int u, int v) {
        long answer = call("make", kind, u, v);
        if (answer >= 0 && kind >= 0 && kind < made.length) {
            made[kind]++;
            call("kind", (int) answer);
        }
    }

    // ---- arguments

    private int any() {
        int usual = random.nextInt(2 * scale + 1) - scale;
        boolean extreme = scale > 4 && random.nextInt(4) == 0;
        return odd(extreme ? (scale - random.nextInt(3)) * (random.nextBoolean() ? 1 : -1) : usual, 60);
    }

    private int odd(int usual) {
        return odd(usual, 15);
    }

    private int odd(int usual, int seldom) {
        return random.nextInt(seldom) == 0 ? ODD[random.nextInt(ODD.length)] : usual;
    }

    private int index() {
        return odd(random.nextInt(9));
    }

    private int object() {
        return odd(random.nextInt(model.count(0) + 1), 50);
    }

    private int map() {
        return odd(random.nextInt(Math.max(1, model.count(1))), 50);
    }

    private int ofSort(int sort) {
        for (int tries = 0; tries < 40; tries++) {
            int object = random.nextInt(model.count(0) + 1);
            if (model.number(object, 6) == sort) {
                return object;
            }
        }
        return (int) (sort == 0 ? call("point", any(), any(), 1) : call("line", any(), 1, any()));
    }

    // ---- both

    private void lookAround() {
        for (int what = 0; what < 3; what++) {
            call("count", what);
        }
        for (int look = 0; look < LOOKS && checks.wrongOnes() == 0; look++) {
            call("number", object(), index());
            call("entry", map(), index());
            call("element", odd(random.nextInt(48)), index());
        }
        checks.holds("at most 512 calls: " + calls, calls <= 512);
    }

    private long call(String name, int... a) {
        calls++;
        long want = answer(true, name, a);
        long got = answer(false, name, a);
        String text = name + Arrays.toString(a);
        log.add(text + " = " + want);
        checks.due(text, got, want);
        if (name.equals("kind") && want >= 0) {
            kindsSeen[(int) want]++;
        }
        if (name.equals("order") && want >= 0) {
            ordersSeen[(int) want]++;
        }
        if (name.equals("group") && want != -2) {
            groupsSeen[want == -4 ? 49 : (int) want]++;
        }
        if (name.equals("shape") && want >= 0) {
            shapesSeen[(int) want]++;
        }
        return want;
    }

    private long answer(boolean byModel, String name, int[] a) {
        TransformRows r = rows;
        Model m = model;
        return switch (name) {
            case "point" -> byModel ? m.point(a[0], a[1], a[2]) : r.point(a[0], a[1], a[2]);
            case "line" -> byModel ? m.line(a[0], a[1], a[2]) : r.line(a[0], a[1], a[2]);
            case "conic" -> byModel ? m.conic(a[0], a[1], a[2], a[3], a[4], a[5])
                    : r.conic(a[0], a[1], a[2], a[3], a[4], a[5]);
            case "number" -> byModel ? m.number(a[0], a[1]) : r.number(a[0], a[1]);
            case "join" -> byModel ? m.join(a[0], a[1]) : r.join(a[0], a[1]);
            case "on" -> byModel ? m.on(a[0], a[1]) : r.on(a[0], a[1]);
            case "shape" -> byModel ? m.shape(a[0]) : r.shape(a[0]);
            case "cross" -> byModel ? m.cross(a[0], a[1], a[2], a[3], a[4]) : r.cross(a[0], a[1], a[2], a[3], a[4]);
            case "give" -> byModel ? m.give(a[0]) : r.give(a[0]);
            case "make" -> byModel ? m.make(a[0], a[1], a[2]) : r.make(a[0], a[1], a[2]);
            case "count" -> byModel ? m.count(a[0]) : r.count(a[0]);
            case "entry" -> byModel ? m.entry(a[0], a[1]) : r.entry(a[0], a[1]);
            case "then" -> byModel ? m.then(a[0], a[1]) : r.then(a[0], a[1]);
            case "back" -> byModel ? m.back(a[0]) : r.back(a[0]);
            case "image" -> byModel ? m.image(a[0], a[1]) : r.image(a[0], a[1]);
            case "kind" -> byModel ? m.kind(a[0]) : r.kind(a[0]);
            case "own" -> byModel ? m.own(a[0], a[1]) : r.own(a[0], a[1]);
            case "fixed" -> byModel ? m.fixed(a[0], a[1]) : r.fixed(a[0], a[1]);
            case "order" -> byModel ? m.order(a[0], a[1]) : r.order(a[0], a[1]);
            case "seed" -> byModel ? m.seed(a[0]) : r.seed(a[0]);
            case "group" -> byModel ? m.group(a[0]) : r.group(a[0]);
            case "element" -> byModel ? m.element(a[0], a[1]) : r.element(a[0], a[1]);
            case "among" -> byModel ? m.among(a[0]) : r.among(a[0]);
            default -> throw new IllegalStateException(name);
        };
    }
}
