import java.util.Set;

/**
 * Promises 12 to 14 and the terms of TESTS and FAULTS: each sentence that names a boundary case.
 * Most of it is on 3 by 3, whose TYPES are 0 2 4, 1 3 0, 2 4 1: CELL 4, in the middle, has TYPE 3,
 * its NEIGHBOURS 0 to 3 have 2, 0, 4, 1; CELL 0 has TYPE 0, its NEIGHBOURS 1 and 2 have 2 and 1.
 */
public final class FaultBoundariesTest {
    private static final Checks CHECKS = new Checks();
    private static final int NONE = DisturbedCells.NONE;
    private static final int UNKNOWN = DisturbedCells.UNKNOWN;
    private static final int OUTSIDE = DisturbedCells.OUTSIDE;
    private static final int LEAST = Integer.MIN_VALUE;
    private static final int GREATEST = Integer.MAX_VALUE;
    private static final int CALLS_OF_ONE = 400;

    public static void main(String[] args) {
        cornersHave();
        for (int rows = 3; rows <= 5; rows++) {
            for (int columns = 3; columns <= 5; columns++) whichFaultsThereAre(rows, columns);
        }
        faultNumbers();
        heldAtTheBeginning();
        heldBehindEachWriting();
        stuck();
        stuckAtTheRim();
        turning();
        turningAtTheRim();
        shouldAtFirst();
        runFirstAndLastStep();
        runMostMisses();
        runAtTheAddress();
        runBitsInTheEnd();
        runWhat();
        foundNone();
        foundUnknown();
        seenPatterns();
        seenUnknown();
        scramblingHidesNothing();
        CHECKS.end();
    }

    private static void due(String call, long got, long want) {
        CHECKS.due(call, got, want);
    }

    /** On 3 by 3: run() for 0 to 5. */
    private static void runIs(String text, int fault, int... want) {
        runIs(Checks.with(3, 3, text), text, fault, want);
    }

    private static void runIs(DisturbedCells x, String text, int fault, int... want) {
        for (int what = 0; what <= 5; what++) {
            due("12: " + text + ": run(" + fault + ", " + what + ")", x.run(fault, what), want[what]);
        }
    }

    private static void isHidden(String text, int fault, int bits) {
        runIs(text, fault, NONE, NONE, NONE, 0, 0, bits);
    }

    // "There is no FAULT with a PATTERN p, or a q, in which a NEIGHBOUR that is not there has 1, nor with such a
    // NEIGHBOUR k"

    private static void cornersHave() {
        hasOnly(0, Set.of(0, 1, 4, 5, 8, 9, 12, 13),
                Set.of(32, 33, 36, 37, 48, 49, 52, 53, 64, 65, 68, 69, 80, 81, 84, 85));
        hasOnly(2, Set.of(0, 1, 8, 9, 16, 17, 24, 25),
                Set.of(64, 65, 72, 73, 80, 81, 88, 89, 96, 97, 104, 105, 112, 113, 120, 121));
        hasOnly(6, Set.of(0, 1, 2, 3, 4, 5, 6, 7),
                Set.of(0, 1, 2, 3, 16, 17, 18, 19, 32, 33, 34, 35, 48, 49, 50, 51));
        hasOnly(8, Set.of(0, 1, 2, 3, 16, 17, 18, 19),
                Set.of(0, 1, 8, 9, 16, 17, 24, 25, 96, 97, 98, 99, 112, 113, 114, 115));
    }

    private static void hasOnly(int cell, Set<Integer> heldOrStuck, Set<Integer> turning) {
        for (int part = 0; part < 300; part++) {
            DisturbedCells x = Checks.with(3, 3, "zr");
            isThere(x, 1000 * cell + part, heldOrStuck.contains(part));
            isThere(x, 1000 * cell + 300 + part, heldOrStuck.contains(part));
            isThere(x, 1000 * cell + 600 + part, turning.contains(part));
        }
    }

    private static void isThere(DisturbedCells x, int fault, boolean there) {
        CHECKS.holds("12: run(" + fault + ", 3)" + (there ? "" : " is UNKNOWN"),
                there ? x.run(fault, 3) >= 0 : x.run(fault, 3) == UNKNOWN);
    }

    private static void whichFaultsThereAre(int rows, int columns) {
        for (int cell = 0; cell < rows * columns; cell++) {
            int row = cell / columns;
            int column = cell % columns;
            boolean[] there = {row > 0, column < columns - 1, row < rows - 1, column > 0};
            int[] many = new int[3];
            DisturbedCells x = null;
            for (int rest = 0; rest < 1000; rest++) {
                if (rest % CALLS_OF_ONE == 0) x = Checks.with(rows, columns, "r");
                boolean is = rest < 600 ? isPattern(rest % 300, there) : isTurning(rest - 600, there);
                isThere(x, 1000 * cell + rest, is);
                if (is) many[rest / 300]++;
            }
            x = Checks.with(rows, columns, "r");
            for (int kind = 0; kind <= 2; kind++) {
                due("13: " + rows + " by " + columns + ": found(" + cell + ", " + kind + ", 0)", x.found(cell, kind, 0), many[kind]);
            }
        }
    }

    private static boolean isPattern(int part, boolean[] there) {
        for (int k = 0; k < 4; k++) {
            if ((part / 2 / (1 << k)) % 2 == 1 && !there[k]) return false;
        }
        return part < 32;
    }

    private static boolean isTurning(int part, boolean[] there) {
        int k = part / 32;
        if (k > 3 || !there[k]) return false;
        int q = part / 2 % 8;
        for (int other = 0; other < 4; other++) {
            if (other == k) continue;
            if (q % 2 == 1 && !there[other]) return false;
            q /= 2;
        }
        return true;
    }

    // 12: "UNKNOWN: there is no such FAULT"

    private static void faultNumbers() {
        DisturbedCells x = Checks.with(3, 3, "or");
        int[] last = {4000, 4031, 4300, 4331, 4600, 4727, 8715};
        int[] wrong = {3999, 4032, 4299, 4332, 4599, 4728, 4899, 4900, 4927, 4931, 4999, 8716, 9000, 9001, 9600, 24000, 25000};
        for (int fault : last) isThere(x, fault, true);
        for (int fault : wrong) isThere(x, fault, false);
        for (int fault : new int[] {LEAST, LEAST + 648, GREATEST, GREATEST - 647, 1000000, -1000000, 1 << 30}) isThere(x, fault, false);
        x = Checks.with(5, 5, "or");
        isThere(x, 24715, true);
        for (int fault : new int[] {24716, 24727, 24999, 25000, 25001, 25715}) isThere(x, fault, false);
        for (int fault = -1400; fault < -1; fault++) {
            if (fault % CALLS_OF_ONE == 0) x = Checks.with(5, 5, "or");
            isThere(x, fault, false);
        }
        due("12: -1 is NONE, no FAULT", x.run(-1, 5), (1 << 25) - 1);
        x.sheet(3, 3);
        isThere(x, 8715, true);
        isThere(x, 9000, false);
        isThere(x, 24715, false);
    }

    // KIND 0: "whenever its PATTERN is p (at the beginning, and behind each time a CELL is written) the CELL becomes v"

    private static void heldAtTheBeginning() {
        DisturbedCells x = new DisturbedCells();
        x.sheet(3, 3);
        for (int cell = 0; cell < 9; cell++) {
            due("12: no STEP, run(" + cell + "001, 5)", x.run(1000 * cell + 1, 5), 1 << cell);
            due("12: no STEP, run(" + cell + "000, 5)", x.run(1000 * cell, 5), 0);
        }
        due("12: no STEP, another PATTERN", x.run(4003, 5), 0);
        for (int cell = 0; cell < 9; cell++) runIs("r", 1000 * cell + 1, 0, cell, 1, 1, 1, 1 << cell);
        isHidden("r", 4000, 0);
        isHidden("r", 4003, 0);
        isHidden("r", 4031, 0);
    }

    private static void heldBehindEachWriting() {
        // in "o" CELL 4 has PATTERNS 0, 1, 9, then is written, then 11, 15
        isHidden("or", 4000, 511);
        isHidden("or", 4002, 511);
        runIs("or", 4018, 1, 4, 0, 1, 1, 511 - 16);
        runIs("or", 4022, 1, 4, 0, 1, 1, 511 - 16);
        runIs("or", 4030, 1, 4, 0, 1, 1, 511 - 16);
        isHidden("or", 4004, 511);
        isHidden("or", 4031, 511);
        // written with what it has: behind that it becomes v again
        runIs("zr", 4001, 1, 4, 1, 1, 1, 16);
        runIs("rzr", 4001, 0, 4, 1, 2, 1, 16);
        // a NEIGHBOUR is written; it stays as it became, when that PATTERN is gone
        runIs("2r", 4003, 1, 4, 1, 1, 1, 2 + 64 + 16);
        runIs("22r", 4003, 2, 4, 1, 1, 1, 16);
        isHidden("22zr", 4003, 0);
        // at the rim, a NEIGHBOUR that is not there has 0
        runIs("or", 12, 1, 0, 0, 1, 1, 510);
        runIs("or", 8018, 1, 8, 0, 1, 1, 255);
    }

    // KIND 1: "when its PATTERN is p and it has v, writing the other one does nothing"

    private static void stuck() {
        runIs("3r", 4300, 1, 4, 0, 1, 1, 0);
        isHidden("3r", 4301, 16);
        isHidden("3r", 4302, 16);
        isHidden("zr", 4300, 0);
        runIs("33r", 4301, 2, 4, 1, 1, 1, 16);
        // what it SHOULD have is what it was written last, whether it took it or not
        isHidden("33r", 4300, 0);
        runIs("333r", 4300, 3, 4, 0, 1, 1, 0);
        isHidden("333r", 4301, 16);
        runIs("3r3r3r", 4300, 1, 4, 0, 2, 1, 0);
        // another PATTERN by then
        isHidden("23r", 4300, 2 + 64 + 16);
        runIs("23r", 4302, 2, 4, 0, 1, 1, 2 + 64);
        runIs("01243r", 4330, 5, 4, 0, 1, 1, 511 - 16);
    }

    private static void stuckAtTheRim() {
        // "o" comes to CELLS 0, 2, 6, 8 in PATTERNS 0, 8, 1, 9; "z" behind it in 6, 4, 2, 0
        int[][] due = {{0, 0, 6}, {2, 8, 4}, {6, 1, 2}, {8, 9, 0}};
        for (int[] row : due) {
            int cell = row[0];
            runIs("or", 1000 * cell + 300 + 2 * row[1], 1, cell, 0, 1, 1, 511 - (1 << cell));
            isHidden("or", 1000 * cell + 300 + 2 * row[1] + 1, 511);
            runIs("ozr", 1000 * cell + 300 + 2 * row[2] + 1, 2, cell, 1, 1, 1, 1 << cell);
        }
        isHidden("or", 8300, 511);
        isHidden("or", 2300, 511);
    }

    // KIND 2: "as NEIGHBOUR k is written and by that becomes w (it was not so), the BITS of its other NEIGHBOURS being
    // q (bit 0 the one of the least number), and the CELL itself has v, it becomes the other one"

    private static void turning() {
        int[] types = {2, 0, 4, 1};
        int[] written = {2 + 64, 1 + 32, 4 + 128, 8 + 256};
        for (int k = 0; k < 4; k++) {
            String type = String.valueOf(types[k]);
            int up = 4600 + 32 * k + 16;
            int down = 4600 + 32 * k;
            runIs(type + "r", up, 1, 4, 1, 1, 1, written[k] + 16);
            isHidden(type + "r", up + 1, written[k]);
            isHidden(type + "r", down, written[k]);
            runIs("3" + type + "r", up + 1, 2, 4, 0, 1, 1, written[k]);
            isHidden("3" + type + "r", up, written[k] + 16);
            runIs(type + type + "r", down, 2, 4, 1, 1, 1, 16);
            isHidden("zzr", down, 0);
            for (int bit = 0; bit < 3; bit++) {
                int other = bit < k ? bit : bit + 1;
                runIs(types[other] + type + "r", up + 2 * (1 << bit), 2, 4, 1, 1, 1, written[k] + written[other] + 16);
                isHidden(types[other] + type + "r", up, written[k] + written[other]);
            }
            // it turns over by k alone, not as another one becomes so
            isHidden(types[(k + 1) % 4] + "r", up, written[(k + 1) % 4]);
        }
        runIs("2410r", 4600 + 32 + 16 + 14, 4, 4, 1, 1, 1, 511);
        // in "z" behind "o" 5 becomes 0 behind CELL 4, as of its other NEIGHBOURS only 7 has 1
        runIs("ozr", 4600 + 32 + 4, 2, 4, 1, 1, 1, 16);
        runIs("ozozr", 4600 + 32 + 4, 4, 4, 1, 1, 1, 16);
        // a NEIGHBOUR written with what it has does not become so
        isHidden("ozzr", 4600 + 32 + 4, 0);
        isHidden("oorr", 4600 + 32 + 16 + 15, 511);
    }

    private static void turningAtTheRim() {
        // CELL 0: 1 beside it becomes 1 as 3, below it, has 1: bit 1 of q; those not there have 0
        runIs("12r", 652, 2, 0, 1, 1, 1, 8 + 256 + 2 + 64 + 1);
        isHidden("12r", 653, 8 + 256 + 2 + 64);
        isHidden("12r", 648, 8 + 256 + 2 + 64);
        runIs("21r", 684, 2, 0, 1, 1, 1, 8 + 256 + 2 + 64 + 1);
        // CELL 0 is written first; behind it, in order, 1 becomes 0 and then 3
        runIs("ozr", 636, 2, 0, 1, 1, 1, 1);
        runIs("ozr", 664, 2, 0, 1, 1, 1, 1);
        isHidden("ozr", 668, 0);
        // CELL 8 is written last, behind those beside it
        isHidden("or", 8616, 511);
        isHidden("or", 8714, 511);
    }

    // "What a CELL SHOULD have: 0 at first"; "a SHEET has one, or none"; "(NONE: without one)"

    private static void shouldAtFirst() {
        isHidden("r", NONE, 0);
        isHidden("3", NONE, 16);
        isHidden("3r", NONE, 16);
        isHidden("o", NONE, 511);
        isHidden("z", NONE, 0);
        isHidden("33r", NONE, 0);
        isHidden("o3r", NONE, 511 - 16);
        runIs("3", 4300, NONE, NONE, NONE, 0, 0, 0);
    }

    // 12: "the STEP of the first MISS (NONE: there is none)"

    private static void runFirstAndLastStep() {
        runIs("r", 4001, 0, 4, 1, 1, 1, 16);
        runIs("z".repeat(59) + "r", 4001, 59, 4, 1, 1, 1, 16);
        isHidden("r".repeat(59) + "z", 4300, 0);
        runIs("z".repeat(59) + "o", 4300, NONE, NONE, NONE, 0, 0, 511);
        DisturbedCells x = new DisturbedCells();
        x.sheet(3, 3);
        x.gray();
        // GRAY ends with 1 in TYPE 4 alone: only in its last STEP has CELL 4 0 in PATTERN 4
        due("12: GRAY, the last STEP", x.run(4009, 0), 63);
        due("12: GRAY, how many MISSES", x.run(4009, 3), 1);
        due("12: GRAY, in STEP 1", x.run(4001, 0), 1);
    }

    // 12: "3 how many MISSES, 4 how many CELLS had one"

    private static void runMostMisses() {
        runIs("r".repeat(60), 4001, 0, 4, 1, 60, 1, 16);
        runIs("r".repeat(60), 8001, 0, 8, 1, 60, 1, 256);
        isHidden("r".repeat(60), 4000, 0);
        runIs("o" + "r".repeat(59), 4030, 1, 4, 0, 59, 1, 511 - 16);
        runIs("rorzr", 4001, 0, 4, 1, 2, 1, 16);
    }

    // 12: "1 its ADDRESS (NONE), 2 what was read there, as it is at the ADDRESS (NONE)"

    private static void runAtTheAddress() {
        DisturbedCells x = Checks.with(5, 5, "ror");
        // CELL 24 is ADDRESS 0, CELL 0 is ADDRESS 24
        x.scramble(24, 24, 16);
        runIs(x, "ROW 4 TURNED", 24001, 0, 0, 0, 1, 1, (1 << 25) - 1);
        runIs(x, "ROW 4 TURNED", 24018, 2, 0, 1, 1, 1, (1 << 24) - 1);
        runIs(x, "ROW 4 TURNED", 1, 0, 24, 1, 1, 1, (1 << 25) - 1);
        runIs(x, "ROW 4 TURNED", 12, 2, 24, 0, 1, 1, (1 << 25) - 2);
        runIs(x, "ROW 4 TURNED", NONE, NONE, NONE, NONE, 0, 0, (1 << 25) - 1);
        runIs(x, "ROW 4 TURNED", 24000, NONE, NONE, NONE, 0, 0, (1 << 25) - 1);
        x.scramble(24, 24, 15);
        runIs(x, "ROWS 0 to 3 TURNED", 24001, 0, 0, 1, 1, 1, (1 << 25) - 1);
        runIs(x, "ROWS 0 to 3 TURNED", 24018, 2, 0, 0, 1, 1, (1 << 24) - 1);
        runIs(x, "ROWS 0 to 3 TURNED", 1, 0, 24, 0, 1, 1, (1 << 25) - 1);
        runIs(x, "ROWS 0 to 3 TURNED", 12, 2, 24, 1, 1, 1, (1 << 25) - 2);
    }

    // 12: "5 all BITS in the end, as bits of CELLS"

    private static void runBitsInTheEnd() {
        for (int rows = 3; rows <= 5; rows++) {
            for (int columns = 3; columns <= 5; columns++) {
                int n = rows * columns;
                DisturbedCells x = Checks.with(rows, columns, "o");
                due("12: all 1 of " + n, x.run(NONE, 5), (1 << n) - 1);
                due("12: but the last", x.run(1000 * (n - 1) + 300 + 18, 5), (1 << n - 1) - 1);
                due("12: but the first", x.run(300, 5), (1 << n) - 2);
                Checks.with(x, "z");
                due("12: all 0 of " + n, x.run(NONE, 5), 0);
                due("12: but the last", x.run(1000 * (n - 1) + 1, 5), 1 << n - 1);
                due("12: but the first", x.run(1, 5), 1);
            }
        }
    }

    // 12: "UNKNOWN: there is no such FAULT; OUTSIDE"

    private static void runWhat() {
        DisturbedCells x = Checks.with(3, 3, "or");
        for (int what : new int[] {LEAST, -1001, -1, 6, 7, 10, GREATEST}) {
            for (int fault : new int[] {NONE, 0, 1, 4030, 4300, 4600, 8715}) {
                due("12: run(" + fault + ", " + what + ")", x.run(fault, what), OUTSIDE);
            }
            for (int fault : new int[] {-2, 2, 900, 9000, 8716, LEAST, GREATEST}) {
                due("12: run(" + fault + ", " + what + ")", x.run(fault, what), UNKNOWN);
            }
        }
    }

    // 13: "2 the least one that is not (NONE), 3 the latest STEP in which any has its first MISS (NONE)"

    private static void foundIs(DisturbedCells x, int cell, int kind, int... want) {
        for (int what = 0; what <= 3; what++) {
            due("13: found(" + cell + ", " + kind + ", " + what + ")", x.found(cell, kind, what), want[what]);
        }
    }

    private static void foundNone() {
        DisturbedCells x = Checks.with(3, 3, "zo01234");
        foundIs(x, 4, 0, 32, 0, 4000, NONE);
        foundIs(x, 4, 1, 32, 0, 4300, NONE);
        foundIs(x, 4, 2, 128, 0, 4600, NONE);
        foundIs(x, 0, 2, 16, 0, 632, NONE);
        foundIs(x, 8, 2, 16, 0, 8600, NONE);
        Checks.with(x, "r");
        foundIs(x, 4, 0, 32, 1, 4000, 0);
        foundIs(x, 4, 1, 32, 0, 4300, NONE);
        foundIs(x, 8, 0, 8, 1, 8000, 0);
        x.gray();
        foundIs(x, 4, 0, 32, 32, NONE, 63);
        // the corner 0 and those beside it have TYPES 0, 2, 1: all is seen once k is 7
        foundIs(x, 0, 0, 8, 8, NONE, 15);
        Checks.with(x, "z".repeat(59) + "r");
        foundIs(x, 4, 0, 32, 1, 4000, 59);
        // STUCK with 0 in PATTERN 0: the least one is found, the next is not
        Checks.with(x, "3r");
        foundIs(x, 4, 1, 32, 1, 4301, 1);
        // the least one that is not lies behind one that is, the latest is not that of the last one
        Checks.with(x, "3r3r");
        foundIs(x, 4, 0, 32, 2, 4002, 3);
        foundIs(x, 4, 1, 32, 2, 4302, 3);
    }

    // 13: "UNKNOWN: cell, kind; OUTSIDE"

    private static void foundUnknown() {
        DisturbedCells x = Checks.with(3, 3, "ror");
        int[] wrongWhats = {-1, 4, LEAST, GREATEST};
        for (int wrong : new int[] {-1, 9, 10, 16, 25, LEAST, GREATEST}) {
            for (int what = -1; what <= 4; what++) {
                due("13: cell " + wrong + ", what " + what, x.found(wrong, 0, what), UNKNOWN);
                due("13: cell " + wrong + ", kind 3, what " + what, x.found(wrong, 3, what), UNKNOWN);
            }
        }
        for (int wrong : new int[] {-1, 3, 4, LEAST, GREATEST}) {
            for (int what = -1; what <= 4; what++) due("13: kind " + wrong + ", " + what, x.found(8, wrong, what), UNKNOWN);
        }
        for (int kind = 0; kind <= 2; kind++) {
            for (int what : wrongWhats) {
                due("13: found(0, " + kind + ", " + what + ")", x.found(0, kind, what), OUTSIDE);
                due("13: found(8, " + kind + ", " + what + ")", x.found(8, kind, what), OUTSIDE);
            }
        }
        x.sheet(5, 5);
        due("13: the last CELL of 5 by 5", x.found(24, 0, 0), 8);
        due("13: none behind it", x.found(25, 0, 0), UNKNOWN);
    }

    // 14: "in all "r": 16 times its BIT, and its PATTERN, as bits of a number"; "(0, if that is not there)"

    private static void seenPatterns() {
        int[] patterns = {6, 14, 12, 7, 15, 13, 3, 11, 9};
        for (int cell = 0; cell < 9; cell++) {
            due("14: or, seen(" + cell + ")", Checks.with(3, 3, "or").seen(cell), 1 << 16 + patterns[cell]);
            due("14: r, seen(" + cell + ")", Checks.with(3, 3, "r").seen(cell), 1);
            due("14: ro, seen(" + cell + ")", Checks.with(3, 3, "ro").seen(cell), 1);
            due("14: rorzrr, seen(" + cell + ")", Checks.with(3, 3, "rorzrr").seen(cell), 1 + (1 << 16 + patterns[cell]));
            due("14: o, seen(" + cell + ")", Checks.with(3, 3, "o").seen(cell), 0);
        }
        due("14: the greatest bit", Checks.with(3, 3, "or").seen(4), LEAST);
        DisturbedCells x = new DisturbedCells();
        x.sheet(5, 5);
        x.gray();
        // a corner, a rim, within: all PATTERNS that there can be, with each BIT
        int[][] whole = {{0, 0x00550055}, {4, 0x11111111}, {20, 0x000f000f}, {24, 0x03030303}, {2, 0x55555555}, {10, 0x00ff00ff},
            {14, 0x33333333}, {22, 0x0f0f0f0f}, {12, -1}};
        for (int[] row : whole) due("14: GRAY, seen(" + row[0] + ")", x.seen(row[0]), row[1]);
    }

    private static void seenUnknown() {
        for (int[] sides : new int[][] {{3, 3}, {3, 5}, {4, 4}, {5, 5}}) {
            DisturbedCells x = Checks.with(sides[0], sides[1], "or");
            int n = sides[0] * sides[1];
            due("14: the last of " + n, x.seen(n - 1), 1 << 16 + 9);
            for (int wrong : new int[] {-1, n, n + 1, LEAST, GREATEST}) due("14: seen(" + wrong + ")", x.seen(wrong), UNKNOWN);
        }
    }

    // "(BITS, not what is wanted at ADDRESSES.)"

    private static void scramblingHidesNothing() {
        DisturbedCells plain = Checks.with(4, 5, "o0r1rz4r");
        DisturbedCells x = Checks.with(4, 5, "o0r1rz4r");
        x.scramble(19, 19, 15);
        for (int cell = 0; cell < 20; cell++) {
            due("14: seen(" + cell + ")", x.seen(cell), plain.seen(cell));
            for (int kind = 0; kind <= 2; kind++) {
                for (int what = 0; what <= 3; what++) {
                    due("13: found(" + cell + ", " + kind + ", " + what + ")", x.found(cell, kind, what), plain.found(cell, kind, what));
                }
            }
        }
        for (int fault : new int[] {1, 300, 6018, 19318, 7632}) {
            for (int what : new int[] {0, 3, 4, 5}) due("12: run(" + fault + ")", x.run(fault, what), plain.run(fault, what));
        }
    }
}
