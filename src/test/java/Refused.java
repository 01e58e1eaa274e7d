import java.util.ArrayList;
import java.util.List;

/**
 * Refused calls: what they answer, and that nothing is changed by them but THE ROW as told. What is
 * held is seen by asking for all of it; what cannot be asked for (what stands in THE ROW, which SEEDS
 * there are), by what comes of it. Each look is at an object of its own, since looking changes it.
 */
final class Refused {
    interface Part {
        void on(TransformRows x);
    }

    interface Call {
        long on(TransformRows x);
    }

    private interface Look {
        void at(TransformRows x, List<Long> seen);
    }

    private static final List<Look> LOOKS = looks();

    private final Checks checks;

    Refused(Checks checks) {
        this.checks = checks;
    }

    /** It is refused so, and nothing at all is changed. */
    void due(String what, Part start, Call call, long want) {
        TransformRows x = new TransformRows();
        start.on(x);
        checks.due(what, call.on(x), want);
        same(what, y -> {
            start.on(y);
            call.on(y);
        }, start);
    }

    /** It is refused so, after these were given: THE ROW is empty then, and nothing else is changed. */
    void makeDue(String what, Part start, long want, int kind, int u, int v, int... given) {
        TransformRows x = new TransformRows();
        start.on(x);
        checks.due(what, Checks.made(x, kind, u, v, given), want);
        checks.due(what + ": THE ROW is empty", x.count(2), 0);
        same(what, y -> {
            start.on(y);
            Checks.made(y, kind, u, v, given);
        }, start);
    }

    /** Whether objects hold the same after the one and after the other. */
    void same(String what, Part one, Part other) {
        for (int k = 0; k < LOOKS.size(); k++) {
            List<Long> seen = seen(one, LOOKS.get(k));
            List<Long> want = seen(other, LOOKS.get(k));
            checks.holds(what + ": nothing is changed (look " + k + ": " + seen + " for " + want + ")",
                    seen.equals(want));
        }
    }

    private static List<Long> seen(Part part, Look look) {
        TransformRows x = new TransformRows();
        part.on(x);
        List<Long> seen = new ArrayList<>();
        look.at(x, seen);
        return seen;
    }

    private static List<Look> looks() {
        List<Look> all = new ArrayList<>();
        all.add((x, seen) -> objects(x, 0, 30, seen));
        all.add((x, seen) -> objects(x, 30, 61, seen));
        all.add((x, seen) -> maps(x, 41, seen));
        all.add((x, seen) -> elements(x, 0, 25, seen));
        all.add((x, seen) -> elements(x, 25, 49, seen));
        all.add(Refused::counts);
        all.add(Refused::theSeeds);
        for (int kind = 0; kind <= 8; kind++) {
            int of = kind;
            all.add((x, seen) -> theRow(x, of, seen));
        }
        return all;
    }

    private static void objects(TransformRows x, int start, int end, List<Long> seen) {
        for (int k = start; k < end; k++) {
            for (int i = 0; i <= 6; i++) {
                seen.add((long) x.number(k, i));
            }
        }
    }

    private static void maps(TransformRows x, int end, List<Long> seen) {
        for (int k = 0; k < end; k++) {
            for (int i = 0; i < 9; i++) {
                seen.add((long) x.entry(k, i));
            }
        }
    }

    private static void elements(TransformRows x, int start, int end, List<Long> seen) {
        for (int k = start; k < end; k++) {
            for (int i = 0; i < 9; i++) {
                seen.add((long) x.element(k, i));
            }
        }
    }

    private static void counts(TransformRows x, List<Long> seen) {
        for (int what = 0; what < 3; what++) {
            seen.add((long) x.count(what));
        }
        for (int k = 0; k < 9; k++) {
            seen.add((long) x.give(0));
        }
        for (int k = 0; k < 5; k++) {
            seen.add((long) x.seed(0));
        }
    }

    private static void theSeeds(TransformRows x, List<Long> seen) {
        seen.add((long) x.group(24));
        elements(x, 0, 25, seen);
    }

    private static void theRow(TransformRows x, int kind, List<Long> seen) {
        int map = x.make(kind, 2, 1);
        seen.add((long) map);
        for (int i = 0; i < 9; i++) {
            seen.add((long) x.entry(map, i));
        }
        seen.add((long) x.count(2));
    }
}
