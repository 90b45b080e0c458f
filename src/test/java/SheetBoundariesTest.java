import java.util.HashSet;
import java.util.Set;

/** Promises 8 to 11 and the terms of the SHEET: each sentence that names a boundary case. */
public final class SheetBoundariesTest {
    private static final Checks CHECKS = new Checks();
    private static final int NONE = DisturbedCells.NONE;
    private static final int UNKNOWN = DisturbedCells.UNKNOWN;
    private static final int OUTSIDE = DisturbedCells.OUTSIDE;
    private static final int LEAST = Integer.MIN_VALUE;
    private static final int GREATEST = Integer.MAX_VALUE;
    private static final int[] FAR = {LEAST, LEAST + 1, LEAST + 4, -65536 + 4, -256, 256 + 4, 65536 + 4, GREATEST - 3, GREATEST};
    /** By how many CELLS there are: each FACTOR that has no divisor but 1 in common with that. */
    private static final int[][] FACTORS = {
        {9, 1, 2, 4, 5, 7, 8},
        {12, 1, 5, 7, 11},
        {15, 1, 2, 4, 7, 8, 11, 13, 14},
        {16, 1, 3, 5, 7, 9, 11, 13, 15},
        {20, 1, 3, 7, 9, 11, 13, 17, 19},
        {25, 1, 2, 3, 4, 6, 7, 8, 9, 11, 12, 13, 14, 16, 17, 18, 19, 21, 22, 23, 24},
    };

    public static void main(String[] args) {
        sheetSides();
        sheetFarSides();
        sheetEndsScrambling();
        sheetRefused();
        sheetKeepsTexts();
        for (int rows = 3; rows <= 5; rows++) {
            for (int columns = 3; columns <= 5; columns++) {
                onSheet(rows, columns);
            }
        }
        neighboursByHand();
        factorsOfAll();
        scrambleWraps();
        scrambleCountsOwn();
        scrambleAgain();
        turnedRows();
        cellWhat();
        CHECKS.end();
    }

    private static void due(String call, long got, long want) {
        CHECKS.due(call, got, want);
    }

    private static DisturbedCells of(int rows, int columns) {
        DisturbedCells x = new DisturbedCells();
        x.sheet(rows, columns);
        return x;
    }

    private static void scrambledBy(String which, DisturbedCells x, int factor, int shift, int turned) {
        due(which + ", FACTOR", x.count(3), factor);
        due(which + ", SHIFT", x.count(4), shift);
        due(which + ", TURNED", x.count(5), turned);
    }

    // 8: "A SHEET has three to five ROWS and COLUMNS"; "OUTSIDE"

    private static void sheetSides() {
        for (int rows = -6; rows <= 11; rows++) {
            for (int columns = -6; columns <= 11; columns++) {
                DisturbedCells x = new DisturbedCells();
                boolean can = rows >= 3 && rows <= 5 && columns >= 3 && columns <= 5;
                String which = "8: sheet(" + rows + ", " + columns + ")";
                due(which, x.sheet(rows, columns), can ? rows * columns : OUTSIDE);
                due(which + ", ROWS", x.count(1), can ? rows : 4);
                due(which + ", COLUMNS", x.count(2), can ? columns : 4);
                due(which + ", the last CELL", x.at(can ? rows * columns - 1 : 15), can ? rows * columns - 1 : 15);
                due(which + ", none behind it", x.at(can ? rows * columns : 16), UNKNOWN);
            }
        }
    }

    private static void sheetFarSides() {
        DisturbedCells x = new DisturbedCells();
        for (int far : FAR) {
            for (int side = 3; side <= 5; side++) {
                due("8: sheet(" + far + ", " + side + ")", x.sheet(far, side), OUTSIDE);
                due("8: sheet(" + side + ", " + far + ")", x.sheet(side, far), OUTSIDE);
            }
            due("8: sheet(" + far + ", " + far + ")", x.sheet(far, far), OUTSIDE);
        }
        due("8: ROWS stay", x.count(1), 4);
        due("8: COLUMNS stay", x.count(2), 4);
    }

    // 8: "(FACTOR is 1, SHIFT 0, no ROW is TURNED then)"

    private static void sheetEndsScrambling() {
        int[][] next = {{4, 4}, {3, 3}, {5, 5}, {3, 5}, {5, 3}};
        for (int[] sides : next) {
            DisturbedCells x = new DisturbedCells();
            x.scramble(15, 15, 15);
            String which = "8: sheet(" + sides[0] + ", " + sides[1] + ") ends it";
            due(which, x.sheet(sides[0], sides[1]), sides[0] * sides[1]);
            scrambledBy(which, x, 1, 0, 0);
            for (int cell = 0; cell < sides[0] * sides[1]; cell++) {
                due(which + ", at", x.at(cell), cell);
                due(which + ", ADDRESS", x.cell(cell, 1), cell);
                due(which + ", TURNED", x.cell(cell, 2), 0);
            }
        }
    }

    private static void sheetRefused() {
        DisturbedCells x = of(5, 3);
        x.scramble(14, 13, 31);
        for (int[] sides : new int[][] {{2, 3}, {6, 3}, {5, 2}, {5, 6}, {0, 0}, {LEAST, GREATEST}}) {
            String which = "8: behind sheet(" + sides[0] + ", " + sides[1] + ")";
            due(which, x.sheet(sides[0], sides[1]), OUTSIDE);
            scrambledBy(which, x, 14, 13, 31);
            due(which + ", ROWS", x.count(1), 5);
            due(which + ", COLUMNS", x.count(2), 3);
            due(which + ", at(0)", x.at(0), 13);
            due(which + ", TURNED", x.cell(14, 2), 1);
        }
    }

    private static void sheetKeepsTexts() {
        DisturbedCells x = Checks.with("or");
        Scene.write(x, "~q");
        due("8: sheet(5, 5)", x.sheet(5, 5), 25);
        due("8: THE PAGE stays", x.count(0), 2);
        due("8: the TEST stays", x.count(6), 2);
        due("8: on all CELLS", x.run(NONE, 5), (1 << 25) - 1);
        due("8: sheet(3, 3)", x.sheet(3, 3), 9);
        due("8: on all CELLS, of fewer", x.run(NONE, 5), (1 << 9) - 1);
    }

    // terms: "CELLS are numbered row by row from 0"; "NEIGHBOURS .. as far as they are there"; TYPE

    private static void onSheet(int rows, int columns) {
        DisturbedCells x = of(rows, columns);
        String which = rows + " by " + columns + ": ";
        for (int row = 0; row < rows; row++) {
            for (int column = 0; column < columns; column++) {
                int cell = row * columns + column;
                String at = which + "CELL " + cell;
                due(at + ", TYPE", x.cell(cell, 0), (row + 2 * column) % 5);
                due(at + ", above", x.cell(cell, 10), row == 0 ? NONE : cell - columns);
                due(at + ", to the right", x.cell(cell, 11), column == columns - 1 ? NONE : cell + 1);
                due(at + ", below", x.cell(cell, 12), row == rows - 1 ? NONE : cell + columns);
                due(at + ", to the left", x.cell(cell, 13), column == 0 ? NONE : cell - 1);
                allUnlike(at, x, cell);
            }
        }
        addressesOf(which, rows, columns);
        scrambleLimits(which, rows, columns);
        cellLimits(which, rows, columns);
    }

    /** "a cell and those beside it are all unlike" */
    private static void allUnlike(String at, DisturbedCells x, int cell) {
        Set<Integer> types = new HashSet<>();
        types.add(x.cell(cell, 0));
        int many = 1;
        for (int k = 10; k <= 13; k++) {
            int beside = x.cell(cell, k);
            if (beside == NONE) continue;
            many++;
            types.add(x.cell(beside, 0));
        }
        due(at + ", TYPES unlike", types.size(), many);
    }

    private static void neighboursByHand() {
        int[][] besides = {
            {0, NONE, 1, 5, NONE}, {4, NONE, NONE, 9, 3}, {20, 15, 21, NONE, NONE}, {24, 19, NONE, NONE, 23},
            {2, NONE, 3, 7, 1}, {10, 5, 11, 15, NONE}, {14, 9, NONE, 19, 13}, {22, 17, 23, NONE, 21}, {12, 7, 13, 17, 11},
        };
        DisturbedCells x = of(5, 5);
        for (int[] row : besides) {
            for (int k = 0; k <= 3; k++) due("10: cell(" + row[0] + ", " + (10 + k) + ")", x.cell(row[0], 10 + k), row[1 + k]);
        }
        due("10: TYPE of the first", x.cell(0, 0), 0);
        due("10: TYPE of ROW 4, COLUMN 4", x.cell(24, 0), 2);
        due("10: TYPE of ROW 0, COLUMN 4", x.cell(4, 0), 3);
        due("10: TYPE of ROW 4, COLUMN 0", x.cell(20, 0), 4);
        due("10: TYPE of ROW 1, COLUMN 2", x.cell(7, 0), 0);
    }

    // 11: "ADDRESSES 0 to (how many CELLS there are, less 1)"; "UNKNOWN"

    private static void addressesOf(String which, int rows, int columns) {
        int n = rows * columns;
        int within = n % 2 == 1 ? n - 2 : n == 12 ? 5 : n - 3;
        for (int[] by : new int[][] {{1, 0}, {1, n - 1}, {n - 1, 0}, {n - 1, n - 1}, {within, 1}}) {
            DisturbedCells x = of(rows, columns);
            CHECKS.holds("9: " + which + "FACTOR " + by[0] + " is taken", x.scramble(by[0], by[1], 0) != OUTSIDE);
            for (int address = 0; address < n; address++) {
                int cell = (by[0] * address + by[1]) % n;
                due("11: " + which + "at(" + address + ")", x.at(address), cell);
                due("10: " + which + "and back", x.cell(cell, 1), address);
            }
            for (int wrong : new int[] {-1, n, n + 1, -n, LEAST, GREATEST}) {
                due("11: " + which + "at(" + wrong + ")", x.at(wrong), UNKNOWN);
            }
        }
    }

    // 9: "OUTSIDE: factor (1 to less than how many CELLS there are; it has a divisor in common with that number),
    // shift (0 to less than that number), turned (bits of ROWS)"

    private static boolean isFactor(int n, int factor) {
        for (int[] row : FACTORS) {
            for (int i = 1; i < row.length && row[0] == n; i++) {
                if (row[i] == factor) return true;
            }
        }
        return false;
    }

    private static void factorsOfAll() {
        for (int rows = 3; rows <= 5; rows++) {
            for (int columns = 3; columns <= 5; columns++) {
                int n = rows * columns;
                for (int factor = -n - 2; factor <= 2 * n + 2; factor++) {
                    DisturbedCells x = of(rows, columns);
                    boolean can = isFactor(n, factor);
                    String which = "9: " + rows + " by " + columns + ", scramble(" + factor + ", 1, 1)";
                    CHECKS.holds(which + (can ? " is taken" : " is refused"), (x.scramble(factor, 1, 1) == OUTSIDE) != can);
                    scrambledBy(which, x, can ? factor : 1, can ? 1 : 0, can ? 1 : 0);
                }
            }
        }
    }

    private static void scrambleLimits(String which, int rows, int columns) {
        int n = rows * columns;
        int allRows = (1 << rows) - 1;
        DisturbedCells x = of(rows, columns);
        CHECKS.holds("9: " + which + "the greatest", x.scramble(n - 1, n - 1, allRows) >= 0);
        scrambledBy("9: " + which + "the greatest", x, n - 1, n - 1, allRows);
        int[][] wrong = {{n, 0, 0}, {n + 1, 0, 0}, {2 * n + 1, 0, 0}, {0, 0, 0}, {-1, 0, 0}, {1, -1, 0}, {1, n, 0}, {1, n + 1, 0},
            {1, 0, -1}, {1, 0, allRows + 1}, {1, 0, allRows + 2}, {1, 0, 2 * allRows + 2}, {n, n, allRows + 1}, {0, -1, -1}};
        for (int[] w : wrong) {
            due("9: " + which + "scramble(" + w[0] + ", " + w[1] + ", " + w[2] + ")", x.scramble(w[0], w[1], w[2]), OUTSIDE);
        }
        for (int far : FAR) {
            due("9: " + which + "factor " + far, x.scramble(far, 0, 0), OUTSIDE);
            due("9: " + which + "shift " + far, x.scramble(1, far, 0), OUTSIDE);
            due("9: " + which + "turned " + far, x.scramble(1, 0, far), OUTSIDE);
            due("9: " + which + "all " + far, x.scramble(far, far, far), OUTSIDE);
        }
        scrambledBy("9: " + which + "behind refused ones", x, n - 1, n - 1, allRows);
        due("9: " + which + "at(0) behind them", x.at(0), n - 1);
        due("9: " + which + "the least", x.scramble(1, 0, 0), n);
        scrambledBy("9: " + which + "the least", x, 1, 0, 0);
    }

    /** "the rest of FACTOR * a + SHIFT by how many CELLS there are" */
    private static void scrambleWraps() {
        DisturbedCells x = of(5, 5);
        x.scramble(24, 24, 0);
        for (int[] pair : new int[][] {{0, 24}, {1, 23}, {12, 12}, {23, 1}, {24, 0}}) due("9: at", x.at(pair[0]), pair[1]);
        x.scramble(13, 24, 0);
        for (int[] pair : new int[][] {{0, 24}, {1, 12}, {2, 0}, {3, 13}, {24, 11}}) due("9: at", x.at(pair[0]), pair[1]);
        x.sheet(3, 3);
        x.scramble(8, 0, 0);
        for (int[] pair : new int[][] {{0, 0}, {1, 8}, {8, 1}}) due("9: at", x.at(pair[0]), pair[1]);
    }

    /** "how many ADDRESSES are their own CELLS" */
    private static void scrambleCountsOwn() {
        int[][] due = {{1, 0, 16}, {1, 1, 0}, {1, 15, 0}, {15, 0, 2}, {15, 1, 0}, {15, 2, 2}, {15, 15, 0}, {5, 0, 4}, {5, 4, 4},
            {5, 1, 0}, {9, 0, 8}, {9, 8, 8}, {9, 4, 0}, {13, 12, 4}};
        for (int[] row : due) {
            for (int turned : new int[] {0, 15}) {
                due("9: scramble(" + row[0] + ", " + row[1] + ", " + turned + ")",
                        new DisturbedCells().scramble(row[0], row[1], turned), row[2]);
            }
        }
    }

    /** FACTOR, SHIFT and TURNED ROWS are those of the call, not heaped on those before. */
    private static void scrambleAgain() {
        DisturbedCells x = new DisturbedCells();
        x.scramble(3, 5, 9);
        due("9: again", x.scramble(7, 2, 6), 2);
        scrambledBy("9: again", x, 7, 2, 6);
        for (int address = 0; address < 16; address++) due("9: again, at", x.at(address), (7 * address + 2) % 16);
        due("9: ROW 0 is not TURNED", x.cell(3, 2), 0);
        due("9: ROW 1 is TURNED", x.cell(4, 2), 1);
        due("9: ROW 3 is not TURNED", x.cell(12, 2), 0);
    }

    /** "TURNED ROWS (none at first)"; bits of ROWS, not of COLUMNS */
    private static void turnedRows() {
        for (int[] sides : new int[][] {{3, 5}, {5, 3}, {4, 4}}) {
            DisturbedCells x = of(sides[0], sides[1]);
            int n = sides[0] * sides[1];
            for (int row = 0; row < sides[0]; row++) {
                due("9: only ROW " + row, x.scramble(1, 0, 1 << row), n);
                for (int cell = 0; cell < n; cell++) {
                    due("10: TURNED, CELL " + cell, x.cell(cell, 2), cell / sides[1] == row ? 1 : 0);
                }
            }
            due("9: one ROW too many", x.scramble(1, 0, 1 << sides[0]), OUTSIDE);
        }
    }

    // 10: "10 to 13 NEIGHBOUR 0 to 3 (NONE). UNKNOWN; OUTSIDE"

    private static void cellLimits(String which, int rows, int columns) {
        int n = rows * columns;
        DisturbedCells x = of(rows, columns);
        for (int wrong : new int[] {-1, -2, -n, n, n + 1, 25, LEAST, GREATEST}) {
            for (int what : new int[] {0, 1, 2, 10, 13, 3, 14, -1, LEAST, GREATEST}) {
                due("10: " + which + "cell(" + wrong + ", " + what + ")", x.cell(wrong, what), UNKNOWN);
            }
        }
        due("10: " + which + "TYPE of the last", x.cell(n - 1, 0), (rows - 1 + 2 * (columns - 1)) % 5);
    }

    private static void cellWhat() {
        DisturbedCells x = of(3, 3);
        for (int what = -20; what <= 40; what++) {
            boolean can = what >= 0 && what <= 2 || what >= 10 && what <= 13;
            CHECKS.holds("10: cell(4, " + what + ")", can ? x.cell(4, what) >= 0 : x.cell(4, what) == OUTSIDE);
        }
        for (int far : FAR) due("10: cell(4, " + far + ")", x.cell(4, far), OUTSIDE);
    }
}
