import java.util.Map;
import java.util.function.ToLongFunction;

/**
 * "Refusals, of several the first as told by each call: .. they change nothing": each refused call
 * in each state, by its answer and by all answers behind it; and no call with any arguments throws.
 */
public final class RefusalsTest {
    private static final Checks CHECKS = new Checks();
    private static final int NONE = DisturbedCells.NONE;
    private static final int UNKNOWN = DisturbedCells.UNKNOWN;
    private static final int OUTSIDE = DisturbedCells.OUTSIDE;
    private static final int LEAST = Integer.MIN_VALUE;
    private static final int GREATEST = Integer.MAX_VALUE;
    private static final int[] ODD = {LEAST, -1001, -2, -1, 0, 1, 2, 3, 4, 5, 6, 9, 15, 16, 24, 25, 26, 31,
        32, 60, 64, 127, 128, 300, 600, 900, 1000, 24999, 25000, 1 << 30, GREATEST};

    private final Scene scene;
    private final Map<String, Long> before;

    private RefusalsTest(Scene scene) {
        this.scene = scene;
        before = Answers.of(scene.make());
    }

    public static void main(String[] args) {
        for (Scene scene : Scene.all()) {
            RefusalsTest test = new RefusalsTest(scene);
            test.texts();
            test.sheet();
            test.scramble();
            test.cells();
            test.run();
            test.found();
            test.counts();
            for (int one : ODD) {
                test.pairs(one);
                test.triples(one);
            }
        }
        CHECKS.end();
    }

    /** The call comes on an object that has worked already, and on the same once more. */
    private DisturbedCells behind(ToLongFunction<DisturbedCells> call) {
        DisturbedCells x = scene.make().get();
        x.found(0, 2, 1);
        call.applyAsLong(x);
        x.digest();
        call.applyAsLong(x);
        return x;
    }

    private void refused(String name, int due, ToLongFunction<DisturbedCells> call) {
        String where = scene.name() + ": " + name;
        CHECKS.due(where, call.applyAsLong(scene.make().get()), due);
        Map<String, Long> after = Answers.of(() -> behind(call));
        for (String asked : before.keySet()) {
            if (!before.get(asked).equals(after.get(asked))) {
                CHECKS.due(where + ", then " + asked, after.get(asked), before.get(asked));
            }
        }
        CHECKS.holds(where + ": as many answers as before", after.size() == before.size());
    }

    private void texts() {
        for (int code : new int[] {31, 127, LEAST, GREATEST}) refused("letter(" + code + ")", OUTSIDE, x -> x.letter(code));
        if (scene.isFull()) refused("letter('r')", DisturbedCells.FULL, x -> x.letter('r'));
        if (!scene.pageIsTest()) refused("test()", DisturbedCells.STATE, DisturbedCells::test);
        for (int place : new int[] {-1, scene.steps().length(), LEAST, GREATEST}) {
            refused("step(" + place + ")", UNKNOWN, x -> x.step(place));
        }
    }

    private void sheet() {
        int rows = scene.rows();
        int columns = scene.columns();
        for (int side : new int[] {2, 6, LEAST, GREATEST}) {
            refused("sheet(" + side + ", columns)", OUTSIDE, x -> x.sheet(side, columns));
            refused("sheet(rows, " + side + ")", OUTSIDE, x -> x.sheet(rows, side));
            refused("sheet(" + side + ", other columns)", OUTSIDE, x -> x.sheet(side, otherThan(columns)));
            refused("sheet(other rows, " + side + ")", OUTSIDE, x -> x.sheet(otherThan(rows), side));
        }
    }

    /** A side that is taken, and not the one that stands. */
    private static int otherThan(int side) {
        return side == 3 ? 5 : 3;
    }

    private void scramble() {
        int n = scene.cells();
        int withDivisor = n % 2 == 0 ? 2 : n % 3 == 0 ? 3 : 5;
        for (int factor : new int[] {0, -1, n, n + 1, withDivisor, LEAST, GREATEST}) {
            refused("scramble(" + factor + ", 2, 3)", OUTSIDE, x -> x.scramble(factor, 2, 3));
        }
        for (int shift : new int[] {-1, n, LEAST, GREATEST}) {
            refused("scramble(1, " + shift + ", 3)", OUTSIDE, x -> x.scramble(1, shift, 3));
        }
        for (int turned : new int[] {-1, 1 << scene.rows(), LEAST, GREATEST}) {
            refused("scramble(1, 2, " + turned + ")", OUTSIDE, x -> x.scramble(1, 2, turned));
        }
    }

    private void cells() {
        int n = scene.cells();
        for (int wrong : new int[] {-1, n, LEAST, GREATEST}) {
            refused("cell(" + wrong + ", 0)", UNKNOWN, x -> x.cell(wrong, 0));
            refused("cell(" + wrong + ", 14)", UNKNOWN, x -> x.cell(wrong, 14));
            refused("at(" + wrong + ")", UNKNOWN, x -> x.at(wrong));
            refused("seen(" + wrong + ")", UNKNOWN, x -> x.seen(wrong));
        }
        for (int what : new int[] {-1, 3, 9, 14, LEAST, GREATEST}) {
            refused("cell(0, " + what + ")", OUTSIDE, x -> x.cell(0, what));
        }
    }

    private void run() {
        for (int fault : new int[] {-2, 32, 332, 728, 900, 1000 * scene.cells(), LEAST, GREATEST}) {
            refused("run(" + fault + ", 0)", UNKNOWN, x -> x.run(fault, 0));
            refused("run(" + fault + ", 6)", UNKNOWN, x -> x.run(fault, 6));
        }
        for (int what : new int[] {-1, 6, LEAST, GREATEST}) {
            refused("run(0, " + what + ")", OUTSIDE, x -> x.run(0, what));
            refused("run(NONE, " + what + ")", OUTSIDE, x -> x.run(NONE, what));
        }
    }

    private void found() {
        for (int cell : new int[] {-1, scene.cells(), LEAST, GREATEST}) {
            refused("found(" + cell + ", 2, 1)", UNKNOWN, x -> x.found(cell, 2, 1));
            refused("found(" + cell + ", 2, 4)", UNKNOWN, x -> x.found(cell, 2, 4));
        }
        for (int kind : new int[] {-1, 3, LEAST, GREATEST}) {
            refused("found(0, " + kind + ", 1)", UNKNOWN, x -> x.found(0, kind, 1));
            refused("found(0, " + kind + ", 4)", UNKNOWN, x -> x.found(0, kind, 4));
        }
        for (int what : new int[] {-1, 4, LEAST, GREATEST}) {
            refused("found(0, 0, " + what + ")", OUTSIDE, x -> x.found(0, 0, what));
        }
    }

    private void counts() {
        for (int what : new int[] {-1, 11, LEAST, GREATEST}) refused("count(" + what + ")", OUTSIDE, x -> x.count(what));
    }

    private static boolean isRefusal(int answer) {
        return answer <= UNKNOWN && answer >= DisturbedCells.FULL;
    }

    private void pairs(int one) {
        DisturbedCells x = scene.make().get();
        for (int other : ODD) {
            x.cell(one, other);
            x.run(one, other);
            if (!isRefusal(x.sheet(one, other))) x = scene.make().get();
        }
        CHECKS.due(scene.name() + ", pairs with " + one, x.digest(), before.get("digest()"));
    }

    private void triples(int one) {
        for (int third : new int[] {-1, 0, 3, 16, 32, LEAST}) {
            DisturbedCells x = scene.make().get();
            for (int other : ODD) {
                x.found(one, other, third);
                if (!isRefusal(x.scramble(one, other, third))) x = scene.make().get();
            }
            CHECKS.due(scene.name() + ", triples with " + one, x.digest(), before.get("digest()"));
        }
    }
}
