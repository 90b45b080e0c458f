/** A refused call changes nothing, whatever stood before it; no call with any arguments throws. */
public final class RefusalsTest {
    private static final Checks CHECKS = new Checks();
    private static final int[] ODD = {Integer.MIN_VALUE, -1001, -2, -1, 0, 1, 2, 3, 4, 5, 6, 9, 15, 16, 24, 25, 26, 31,
        32, 60, 64, 127, 128, 300, 600, 900, 1000, 24999, 25000, 1 << 30, Integer.MAX_VALUE};

    public static void main(String[] args) {
        for (int state = 0; state < 4; state++) {
            DisturbedCells x = make(state);
            single(x, state);
            for (int one : ODD) {
                pairs(make(state), state, one);
                triples(state, one);
            }
        }
        CHECKS.end();
    }

    private static DisturbedCells make(int state) {
        DisturbedCells x = new DisturbedCells();
        if (state == 1) {
            Checks.with(x, "o0r1r");
            x.letter('z');
            x.letter('!');
        } else if (state == 2) {
            x.sheet(5, 5);
            x.scramble(3, 4, 21);
            x.gray();
            for (int many = 0; many < 60; many++) x.letter('r');
        } else if (state == 3) {
            Checks.with(x, "zr4r");
            x.sheet(3, 5);
            x.scramble(2, 14, 7);
        }
        return x;
    }

    private static boolean refused(int answer) {
        return answer <= DisturbedCells.UNKNOWN && answer >= DisturbedCells.FULL;
    }

    private static void single(DisturbedCells x, int state) {
        long before = x.digest();
        for (int one : ODD) {
            // step, at, seen and count only ask: they change nothing, refused or not
            x.step(one);
            x.at(one);
            x.seen(one);
            x.count(one);
            CHECKS.due("state " + state + ", asked by " + one, x.digest(), before);
            DisturbedCells y = make(state);
            boolean changes = !refused(y.letter(one));
            CHECKS.holds("state " + state + ", letter(" + one + ")", changes || y.digest() == before);
        }
        DisturbedCells y = make(state);
        boolean changes = !refused(y.test());
        CHECKS.holds("state " + state + ", test() is refused", !changes || state == 2);
        CHECKS.holds("state " + state + ", test()", changes || y.digest() == before);
    }

    private static void pairs(DisturbedCells x, int state, int one) {
        long before = x.digest();
        for (int other : ODD) {
            x.cell(one, other);
            x.run(one, other);
            if (refused(x.sheet(one, other))) {
                continue;
            }
            x = make(state);
        }
        CHECKS.due("state " + state + ", pairs with " + one, x.digest(), before);
    }

    private static void triples(int state, int one) {
        DisturbedCells x = make(state);
        long before = x.digest();
        for (int other : ODD) {
            for (int third : new int[] {-1, 0, 3, 16, 32, Integer.MIN_VALUE}) {
                x.found(one, other, third);
                if (!refused(x.scramble(one, other, third))) {
                    x = make(state);
                }
            }
        }
        CHECKS.due("state " + state + ", triples with " + one, x.digest(), before);
    }
}
