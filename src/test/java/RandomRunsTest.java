import java.util.List;
import java.util.Random;

/** Runs of calls by a fixed seed, each answer compared with PlainCells. */
public final class RandomRunsTest {
    private static final int RUNS = 60;
    private static final int CALLS = 512;
    private static final int MOST_CALLS_OF_A_TURN = 63;
    private static final String SIGNS = "zor01234";
    private static final Checks CHECKS = new Checks();

    private final int run;
    private final Random random;
    private final DisturbedCells real = new DisturbedCells();
    private final PlainCells plain = new PlainCells();
    private int calls;

    private RandomRunsTest(int run) {
        this.run = run;
        this.random = new Random(1721 + run);
    }

    public static void main(String[] args) {
        for (int run = 0; run < RUNS; run++) {
            new RandomRunsTest(run).play();
        }
        CHECKS.end();
    }

    private void due(String call, long got, long want) {
        calls++;
        CHECKS.due("run " + run + ", call " + calls + ": " + call, got, want);
    }

    private void play() {
        while (calls < CALLS - MOST_CALLS_OF_A_TURN) {
            switch (random.nextInt(40)) {
                case 0: case 1: write(); break;
                case 2: due("gray()", real.gray(), plain.gray()); break;
                case 3: sheet(); break;
                case 4: scramble(); break;
                case 5: letter(random.nextInt(140) - 5); break;
                case 6: due("blank()", real.blank(), plain.blank()); break;
                case 7: digest(); break;
                default: ask();
            }
        }
        digest();
    }

    private void write() {
        int many = random.nextInt(4) == 0 ? 61 : 1 + random.nextInt(20);
        for (int i = 0; i < many; i++) {
            letter(random.nextInt(200) == 0 ? 32 + random.nextInt(95) : SIGNS.charAt(random.nextInt(8)));
        }
        due("fault()", real.fault(), plain.fault());
        if (random.nextInt(8) > 0) {
            due("test()", real.test(), plain.test());
        }
    }

    private void letter(int code) {
        due("letter(" + code + ")", real.letter(code), plain.letter(code));
    }

    private void sheet() {
        int rows = 2 + random.nextInt(5);
        int columns = 2 + random.nextInt(5);
        due("sheet(" + rows + ", " + columns + ")", real.sheet(rows, columns), plain.sheet(rows, columns));
    }

    private void scramble() {
        int n = plain.cells();
        int factor = near(n);
        int shift = near(n);
        int turned = near(32);
        due("scramble(" + factor + ", " + shift + ", " + turned + ")",
                real.scramble(factor, shift, turned), plain.scramble(factor, shift, turned));
    }

    /** 0 to less than n, seldom one beside or far from it. */
    private int near(int n) {
        switch (random.nextInt(40)) {
            case 0: return random.nextInt();
            case 1: return n;
            case 2: return -1;
            case 3: return random.nextBoolean() ? Integer.MIN_VALUE : Integer.MAX_VALUE;
            default: return random.nextInt(n);
        }
    }

    private void ask() {
        int n = plain.cells();
        int c = near(n);
        int what;
        switch (random.nextInt(8)) {
            case 0:
                due("step(" + c + ")", real.step(c), plain.step(c));
                break;
            case 1:
                what = near(14);
                due("cell(" + c + ", " + what + ")", real.cell(c, what), plain.cell(c, what));
                break;
            case 2:
                due("at(" + c + ")", real.at(c), plain.at(c));
                break;
            case 3:
                due("seen(" + c + ")", real.seen(c), plain.seen(c));
                break;
            case 4:
                what = near(11);
                due("count(" + what + ")", real.count(what), plain.count(what));
                break;
            case 5:
                int kind = near(3);
                what = near(4);
                due("found(" + c + ", " + kind + ", " + what + ")",
                        real.found(c, kind, what), plain.found(c, kind, what));
                break;
            default:
                int fault = fault(c);
                what = near(6);
                due("run(" + fault + ", " + what + ")", real.run(fault, what), plain.run(fault, what));
        }
    }

    private int fault(int c) {
        if (random.nextInt(4) > 0) {
            List<Integer> all = plain.faultsOf(random.nextInt(plain.cells()));
            return all.get(random.nextInt(all.size()));
        }
        return random.nextInt(4) == 0 ? near(2) - 1 : 1000 * c + random.nextInt(1000);
    }

    private void digest() {
        due("digest()", real.digest(), plain.digest());
    }
}
