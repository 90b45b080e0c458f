/** Each promise by cases worked out by hand: ordinary ones, edges, wrong inputs. */
public final class PromisesTest {
    private static final Checks CHECKS = new Checks();
    private static final int NONE = DisturbedCells.NONE;
    private static final int UNKNOWN = DisturbedCells.UNKNOWN;
    private static final int OUTSIDE = DisturbedCells.OUTSIDE;
    private static final int STATE = DisturbedCells.STATE;
    private static final int FULL = DisturbedCells.FULL;
    private static final int[] FAR = {Integer.MIN_VALUE, -1000, -2, 1000, 1 << 30, Integer.MAX_VALUE};

    public static void main(String[] args) {
        constants();
        promise1NewObject();
        promise2Letter();
        promise3Blank();
        promise4Fault();
        promise5Test();
        promise6Gray();
        promise7Step();
        promise8Sheet();
        promise9Scramble();
        promise10Cell();
        promise11At();
        promise12RunHeld();
        promise12RunStuck();
        promise12RunTurning();
        promise12RunWrong();
        promise13Found();
        promise14Seen();
        promise15Count();
        promise16Digest();
        CHECKS.end();
    }

    private static void due(String call, long got, long want) {
        CHECKS.due(call, got, want);
    }

    private static void constants() {
        due("NONE", NONE, -1);
        due("UNKNOWN", UNKNOWN, -1001);
        due("OUTSIDE", OUTSIDE, -1002);
        due("STATE", STATE, -1003);
        due("FULL", FULL, -1004);
    }

    private static void promise1NewObject() {
        DisturbedCells x = new DisturbedCells();
        int[] counts = {0, 4, 4, 1, 0, 0, 0, 0, 0, 1, 0};
        for (int what = 0; what < counts.length; what++) {
            due("1: count(" + what + ")", x.count(what), counts[what]);
        }
        due("1: step(0)", x.step(0), UNKNOWN);
        due("1: at(15)", x.at(15), 15);
        due("1: seen(0)", x.seen(0), 0);
        due("1: run(NONE, 0)", x.run(NONE, 0), NONE);
        due("1: run(NONE, 5)", x.run(NONE, 5), 0);
        due("1: run(1, 5), HELD at the beginning", x.run(1, 5), 1);
        due("1: found(0, 0, 1)", x.found(0, 0, 1), 0);
    }

    private static void promise2Letter() {
        DisturbedCells x = new DisturbedCells();
        for (int code : new int[] {31, 127, 0, -1, 255}) {
            due("2: letter(" + code + ")", x.letter(code), OUTSIDE);
        }
        for (int code : FAR) due("2: letter(" + code + ")", x.letter(code), OUTSIDE);
        due("2: letter(32)", x.letter(32), 1);
        due("2: letter(126)", x.letter(126), 2);
        for (int many = 3; many <= 60; many++) due("2: letter('r')", x.letter('r'), many);
        due("2: letter 61", x.letter('r'), FULL);
        due("2: letter 61, none", x.letter(127), OUTSIDE);
        due("2: count(0)", x.count(0), 60);
        x.blank();
        due("2: letter behind blank", x.letter('z'), 1);
    }

    private static void promise3Blank() {
        DisturbedCells x = Checks.with("zr");
        due("3: blank() of nothing", x.blank(), 0);
        x.letter('q');
        x.letter('q');
        x.letter('z');
        due("3: blank()", x.blank(), 3);
        due("3: count(0)", x.count(0), 0);
        due("3: the TEST stays", x.count(6), 2);
        due("3: blank() again", x.blank(), 0);
    }

    private static void promise4Fault() {
        DisturbedCells x = new DisturbedCells();
        due("4: fault() of nothing", x.fault(), 0);
        String signs = "zor01234";
        for (int code = 32; code <= 126; code++) {
            x.blank();
            x.letter('z');
            x.letter(code);
            due("4: fault() of z and " + code, x.fault(), signs.indexOf(code) >= 0 ? 2 : 1);
        }
        x.blank();
        x.letter('5');
        x.letter('Z');
        due("4: the first of two", x.fault(), 0);
        x.blank();
        for (int many = 0; many < 60; many++) x.letter(many < 59 ? 'r' : '/');
        due("4: the last one", x.fault(), 59);
        due("4: it changes nothing", x.count(0), 60);
    }

    private static void promise5Test() {
        DisturbedCells x = new DisturbedCells();
        due("5: test() of nothing", x.test(), STATE);
        x.letter('o');
        x.letter('r');
        due("5: test()", x.test(), 2);
        due("5: the page is empty", x.count(0), 0);
        due("5: the first step", x.step(0), 'o');
        due("5: test() of nothing, again", x.test(), STATE);
        x.letter('z');
        x.letter('5');
        due("5: test() of z5", x.test(), STATE);
        due("5: the page stays", x.count(0), 2);
        due("5: the TEST stays", x.step(0), 'o');
        due("5: its results stay", x.run(NONE, 5), 0xffff);
        x.blank();
        x.letter('4');
        due("5: SEEN by the TEST that stands", x.seen(0), 1 << 16 + 6);
        due("5: another test()", x.test(), 1);
        due("5: SEEN by the other one", x.seen(0), 0);
        due("5: the other one is gone", x.step(1), UNKNOWN);
        x.gray();
        for (int many = 0; many < 60; many++) x.letter('1');
        due("5: test() of 60", x.test(), 60);
        due("5: gray is gone", x.step(60), UNKNOWN);
        due("5: the last step", x.step(59), '1');
    }

    private static void promise6Gray() {
        DisturbedCells x = new DisturbedCells();
        x.letter('q');
        due("6: gray()", x.gray(), 64);
        String text = "zr0r1r0r2r0r1r0r3r0r1r0r2r0r1r0r4r0r1r0r2r0r1r0r3r0r1r0r2r0r1r0r";
        for (int place = 0; place < 64; place++) {
            due("6: step(" + place + ")", x.step(place), text.charAt(place));
        }
        due("6: the page stays", x.blank(), 1);
        due("6: all cells are seen whole", x.count(10), 16);
        due("6: seen(5)", x.seen(5), -1);
        Checks.with(x, "r");
        due("6: seen(5) by another one", x.seen(5), 1);
        x.gray();
        due("6: seen(5) by gray again", x.seen(5), -1);
        x.sheet(5, 5);
        due("6: also on 5 by 5", x.count(10), 25);
        due("6: its OPS are BOUND there: above", x.count(8), 1);
        due("6: its OPS are BOUND there: below", x.count(9), 1);
    }

    private static void promise7Step() {
        DisturbedCells x = Checks.with("z0r4o");
        for (int place = 0; place < 5; place++) {
            due("7: step(" + place + ")", x.step(place), "z0r4o".charAt(place));
        }
        due("7: step(5)", x.step(5), UNKNOWN);
        due("7: step(-1)", x.step(-1), UNKNOWN);
        for (int place : FAR) due("7: step(" + place + ")", x.step(place), UNKNOWN);
        x.gray();
        due("7: step(63)", x.step(63), 'r');
        due("7: step(64)", x.step(64), UNKNOWN);
    }

    private static void promise8Sheet() {
        DisturbedCells x = Checks.with("o0r");
        x.letter('z');
        for (int rows = 1; rows <= 7; rows++) {
            for (int columns = 1; columns <= 7; columns++) {
                boolean can = rows >= 3 && rows <= 5 && columns >= 3 && columns <= 5;
                due("8: sheet(" + rows + ", " + columns + ")", x.sheet(rows, columns), can ? rows * columns : OUTSIDE);
            }
        }
        due("8: the last one stands, rows", x.count(1), 5);
        due("8: CELL 4 is a corner", x.found(4, 0, 0), 8);
        x.sheet(3, 3);
        due("8: CELL 4 is within", x.found(4, 0, 0), 32);
        x.sheet(5, 5);
        for (int side : FAR) {
            due("8: sheet(" + side + ", 3)", x.sheet(side, 3), OUTSIDE);
            due("8: sheet(3, " + side + ")", x.sheet(3, side), OUTSIDE);
        }
        x.scramble(2, 3, 31);
        x.sheet(2, 3);
        due("8: refused, FACTOR stays", x.count(3), 2);
        due("8: refused, TURNED stays", x.count(5), 31);
        due("8: sheet(3, 5)", x.sheet(3, 5), 15);
        due("8: rows", x.count(1), 3);
        due("8: columns", x.count(2), 5);
        due("8: FACTOR is 1", x.count(3), 1);
        due("8: SHIFT is 0", x.count(4), 0);
        due("8: no ROW is TURNED", x.count(5), 0);
        due("8: at(14)", x.at(14), 14);
        due("8: the page stays", x.count(0), 1);
        due("8: the TEST stays", x.count(6), 3);
        x.sheet(3, 3);
        due("8: and runs anew", x.run(NONE, 5), 511 - 1 - 32);
        due("8: smaller: no CELL 9", x.cell(9, 0), UNKNOWN);
    }

    private static void promise9Scramble() {
        DisturbedCells x = new DisturbedCells();
        due("9: scramble(1, 0, 0)", x.scramble(1, 0, 0), 16);
        due("9: scramble(1, 1, 0)", x.scramble(1, 1, 0), 0);
        due("9: scramble(5, 0, 15)", x.scramble(5, 0, 15), 4);
        due("9: scramble(15, 15, 8)", x.scramble(15, 15, 8), 0);
        int[][] wrong = {{0, 0, 0}, {-1, 0, 0}, {16, 0, 0}, {17, 0, 0}, {2, 0, 0}, {14, 0, 0}, {8, 0, 0},
            {1, -1, 0}, {1, 16, 0}, {1, 0, -1}, {1, 0, 16}};
        for (int[] w : wrong) {
            due("9: scramble(" + w[0] + ", " + w[1] + ", " + w[2] + ")", x.scramble(w[0], w[1], w[2]), OUTSIDE);
        }
        for (int far : FAR) {
            due("9: factor " + far, x.scramble(far, 0, 0), OUTSIDE);
            due("9: shift " + far, x.scramble(1, far, 0), OUTSIDE);
            due("9: turned " + far, x.scramble(1, 0, far), OUTSIDE);
        }
        due("9: FACTOR", x.count(3), 15);
        due("9: SHIFT", x.count(4), 15);
        due("9: TURNED", x.count(5), 8);
        x.sheet(5, 3);
        due("9: on 15: 3", x.scramble(3, 0, 0), OUTSIDE);
        due("9: on 15: 10", x.scramble(10, 0, 0), OUTSIDE);
        due("9: on 15: 4, all rows", x.scramble(4, 3, 31), 3);
        due("9: on 15: row 5", x.scramble(4, 3, 32), OUTSIDE);
    }

    private static void promise10Cell() {
        DisturbedCells x = new DisturbedCells();
        x.sheet(3, 5);
        int[] types = {0, 2, 4, 1, 3, 1, 3, 0, 2, 4, 2, 4, 1, 3, 0};
        for (int cell = 0; cell < 15; cell++) due("10: TYPE of " + cell, x.cell(cell, 0), types[cell]);
        x.scramble(2, 1, 2);
        due("10: ADDRESS of 1", x.cell(1, 1), 0);
        due("10: ADDRESS of 0", x.cell(0, 1), 7);
        due("10: ADDRESS of 14", x.cell(14, 1), 14);
        due("10: 4 is not TURNED", x.cell(4, 2), 0);
        due("10: 5 is TURNED", x.cell(5, 2), 1);
        due("10: 9 is TURNED", x.cell(9, 2), 1);
        due("10: 10 is not TURNED", x.cell(10, 2), 0);
        int[][] besides = {{0, NONE, 1, 5, NONE}, {4, NONE, NONE, 9, 3}, {7, 2, 8, 12, 6}, {5, 0, 6, 10, NONE},
            {9, 4, NONE, 14, 8}, {10, 5, 11, NONE, NONE}, {14, 9, NONE, NONE, 13}};
        for (int[] row : besides) {
            for (int k = 0; k < 4; k++) due("10: beside " + row[0] + ", " + k, x.cell(row[0], 10 + k), row[1 + k]);
        }
        for (int what : new int[] {-1, 3, 9, 14}) due("10: what " + what, x.cell(0, what), OUTSIDE);
        for (int far : FAR) {
            due("10: cell(0, " + far + ")", x.cell(0, far), OUTSIDE);
            due("10: cell(" + far + ", 0)", x.cell(far, 0), UNKNOWN);
            due("10: UNKNOWN first", x.cell(far, far), UNKNOWN);
        }
        due("10: cell(-1, 0)", x.cell(-1, 0), UNKNOWN);
        due("10: cell(15, 3)", x.cell(15, 3), UNKNOWN);
    }

    private static void promise11At() {
        DisturbedCells x = new DisturbedCells();
        x.sheet(3, 3);
        x.scramble(2, 1, 0);
        int[] cells = {1, 3, 5, 7, 0, 2, 4, 6, 8};
        for (int address = 0; address < 9; address++) {
            due("11: at(" + address + ")", x.at(address), cells[address]);
            due("11: and back", x.cell(cells[address], 1), address);
        }
        due("11: at(9)", x.at(9), UNKNOWN);
        due("11: at(-1)", x.at(-1), UNKNOWN);
        for (int far : FAR) due("11: at(" + far + ")", x.at(far), UNKNOWN);
    }

    private static void runIs(DisturbedCells x, int fault, int... want) {
        for (int what = 0; what <= 5; what++) {
            due("12: run(" + fault + ", " + what + ")", x.run(fault, what), want[what]);
        }
    }

    private static void promise12RunHeld() {
        DisturbedCells x = Checks.with(3, 3, "orrzr");
        runIs(x, NONE, NONE, NONE, NONE, 0, 0, 0);
        runIs(x, 4030, 1, 4, 0, 2, 1, 0);
        runIs(x, 4031, NONE, NONE, NONE, 0, 0, 0);
        runIs(x, 4001, 4, 4, 1, 1, 1, 16);
        x.scramble(2, 1, 2);
        runIs(x, 4030, 1, 6, 1, 2, 1, 0);
        runIs(x, 4001, 4, 6, 0, 1, 1, 16);
        x.scramble(2, 1, 5);
        runIs(x, 4030, 1, 6, 0, 2, 1, 0);
        runIs(x, 8001, 4, 8, 0, 1, 1, 256);
        runIs(Checks.with(3, 3, "r"), 4001, 0, 4, 1, 1, 1, 16);
        // what a figure writes is the other one than the CELL SHOULD have, not than it has
        runIs(Checks.with(3, 3, "3r3r"), 4000, 1, 4, 0, 1, 1, 0);
    }

    private static void promise12RunStuck() {
        // CELL 0 is written first, CELL 8 last: 8 has 1 above and to the left by then
        DisturbedCells x = Checks.with(3, 3, "or");
        runIs(x, 300, 1, 0, 0, 1, 1, 511 - 1);
        runIs(x, 8300, NONE, NONE, NONE, 0, 0, 511);
        runIs(x, 8318, 1, 8, 0, 1, 1, 255);
        runIs(x, 8319, NONE, NONE, NONE, 0, 0, 511);
        runIs(x, 4318, 1, 4, 0, 1, 1, 511 - 16);
        runIs(x, 4330, NONE, NONE, NONE, 0, 0, 511);
        // STUCK at 1: written 0 as those to the right and below still have 1
        runIs(Checks.with(3, 3, "ozrr"), 4313, 2, 4, 1, 2, 1, 16);
        runIs(Checks.with(3, 3, "ozrzr"), 4313, 2, 4, 1, 1, 1, 0);
    }

    private static void promise12RunTurning() {
        // of CELL 4 in 3 by 3 the NEIGHBOURS 0 to 3 have TYPES 2, 0, 4, 1, itself 3
        runIs(Checks.with(3, 3, "0r"), 4648, 1, 4, 1, 1, 1, 1 + 32 + 16);
        runIs(Checks.with(3, 3, "0r"), 4649, NONE, NONE, NONE, 0, 0, 1 + 32);
        runIs(Checks.with(3, 3, "0r"), 4632, NONE, NONE, NONE, 0, 0, 1 + 32);
        runIs(Checks.with(3, 3, "00r"), 4648, 2, 4, 1, 1, 1, 16);
        runIs(Checks.with(3, 3, "00r"), 4632, 2, 4, 1, 1, 1, 16);
        runIs(Checks.with(3, 3, "0000r"), 4648, 4, 4, 1, 1, 1, 16);
        runIs(Checks.with(3, 3, "3000r"), 4649, 4, 4, 0, 1, 1, 1 + 32);
        // q leaves k out: bit 0 is NEIGHBOUR 0, bits 1 and 2 are 2 and 3
        runIs(Checks.with(3, 3, "20r"), 4650, 2, 4, 1, 1, 1, 1 + 32 + 2 + 64 + 16);
        runIs(Checks.with(3, 3, "40r"), 4652, 2, 4, 1, 1, 1, 1 + 32 + 4 + 128 + 16);
        runIs(Checks.with(3, 3, "10r"), 4656, 2, 4, 1, 1, 1, 1 + 32 + 8 + 256 + 16);
        runIs(Checks.with(3, 3, "02r"), 4618, 2, 4, 1, 1, 1, 1 + 32 + 2 + 64 + 16);
        runIs(Checks.with(3, 3, "22r"), 4600, 2, 4, 1, 1, 1, 16);
        // k is written as before: it does not become so
        runIs(Checks.with(3, 3, "zr"), 4632, NONE, NONE, NONE, 0, 0, 0);
        // turned over behind its own being written in "o", ahead of it not to be seen
        runIs(Checks.with(3, 3, "or"), 4600 + 32 + 16 + 2 * 5 + 1, 1, 4, 0, 1, 1, 511 - 16);
        runIs(Checks.with(3, 3, "or"), 4616, NONE, NONE, NONE, 0, 0, 511);
    }

    private static void promise12RunWrong() {
        DisturbedCells x = Checks.with(3, 3, "or");
        int[] none = {-2, -1001, 9000, 900, 999, 32, 299, 332, 599, 600, 728, 899, 2, 3, 16, 302, 616, 4032, 4332,
            4728, 4900, 634, 640, 666, 696, 8600 + 32, 8600 + 64, 1600};
        for (int fault : none) {
            due("12: run(" + fault + ", 0)", x.run(fault, 0), UNKNOWN);
            due("12: run(" + fault + ", 6)", x.run(fault, 6), UNKNOWN);
        }
        for (int fault : FAR) {
            if (fault != 1000) due("12: run(" + fault + ", 0)", x.run(fault, 0), UNKNOWN);
        }
        int[] some = {0, 1, 4, 5, 8, 12, 13, 31 + 4000, 331 + 4000, 4600, 4727, 632, 633, 636, 664, 668, 8600, 8601};
        for (int fault : some) due("12: run(" + fault + ", 3) >= 0", x.run(fault, 3) >= 0 ? 1 : 0, 1);
        for (int what : new int[] {-1, 6, Integer.MIN_VALUE, Integer.MAX_VALUE}) {
            due("12: run(0, " + what + ")", x.run(0, what), OUTSIDE);
            due("12: run(NONE, " + what + ")", x.run(NONE, what), OUTSIDE);
        }
    }

    private static void promise13Found() {
        DisturbedCells x = Checks.with(3, 3, "rorzr");
        int[][] many = {{0, 8, 8, 16}, {1, 16, 16, 48}, {4, 32, 32, 128}};
        for (int[] row : many) {
            for (int kind = 0; kind <= 2; kind++) {
                due("13: how many of " + row[0] + ", " + kind, x.found(row[0], kind, 0), row[1 + kind]);
            }
        }
        // CELL 4 HELD: p 0, v 1 in STEP 0; p 9, 11, 15, v 0 in STEP 2; p 6, 4, v 1 in STEP 4
        due("13: HELD found", x.found(4, 0, 1), 6);
        due("13: HELD, the least that is not", x.found(4, 0, 2), 4000);
        due("13: HELD, the latest", x.found(4, 0, 3), 4);
        // STUCK: p 9, v 0 in "o", p 6, v 1 in "z"
        due("13: STUCK found", x.found(4, 1, 1), 2);
        due("13: STUCK, the least that is not", x.found(4, 1, 2), 4300);
        due("13: STUCK, the latest", x.found(4, 1, 3), 4);
        x = Checks.with(3, 3, "z");
        due("13: not read: found", x.found(0, 0, 1), 0);
        due("13: not read: the least", x.found(0, 2, 2), 632);
        due("13: not read: the latest", x.found(0, 0, 3), NONE);
        x.gray();
        due("13: by gray all HELD are", x.found(4, 0, 1), 32);
        due("13: so none is not", x.found(4, 0, 2), NONE);
        for (int far : FAR) {
            due("13: cell " + far, x.found(far, 0, 0), UNKNOWN);
            due("13: kind " + far, x.found(0, far, 9), UNKNOWN);
            due("13: what " + far, x.found(0, 0, far), OUTSIDE);
        }
        due("13: cell -1", x.found(-1, 0, 0), UNKNOWN);
        due("13: cell 9", x.found(9, 0, 4), UNKNOWN);
        due("13: kind -1", x.found(0, -1, 0), UNKNOWN);
        due("13: kind 3", x.found(0, 3, 4), UNKNOWN);
        due("13: what -1", x.found(0, 0, -1), OUTSIDE);
        due("13: what 4", x.found(8, 2, 4), OUTSIDE);
    }

    private static void promise14Seen() {
        DisturbedCells x = Checks.with(3, 3, "or");
        due("14: seen(4)", x.seen(4), 1 << 31);
        due("14: seen(0)", x.seen(0), 1 << 16 + 6);
        due("14: seen(8)", x.seen(8), 1 << 16 + 9);
        Checks.with(x, "r0r");
        due("14: none, then the one to the right", x.seen(4), 1 + 4);
        due("14: itself", x.seen(0), 1 + (1 << 16));
        Checks.with(x, "o0");
        due("14: not read", x.seen(4), 0);
        x.gray();
        due("14: gray", x.seen(4), -1);
        due("14: gray, a corner", x.seen(0), 0x00550055);
        due("14: seen(-1)", x.seen(-1), UNKNOWN);
        due("14: seen(9)", x.seen(9), UNKNOWN);
        for (int far : FAR) due("14: seen(" + far + ")", x.seen(far), UNKNOWN);
    }

    private static void promise15Count() {
        DisturbedCells x = Checks.with(3, 4, "o0r");
        x.scramble(5, 7, 6);
        x.letter('q');
        // 3 by 4: TYPES 0 2 4 1, 1 3 0 2, 2 4 1 3: of TYPE 0 there are two; BOUND 33 * 12 + 31 * 2
        int[] counts = {1, 3, 4, 5, 7, 6, 3, 26, 13, 229, 0};
        for (int what = 0; what < counts.length; what++) {
            due("15: count(" + what + ")", x.count(what), counts[what]);
        }
        // a corner is seen whole by "zr" and GRAY of the TYPES 0, 2, 1 of it and those beside it
        Checks.with(x, "zr0r2r0r1r0r2r0r");
        due("15: corner 0 is seen whole", x.count(10), 1);
        Checks.with(x, "zr0r2r0r1r0r2r0");
        due("15: but for one", x.count(10), 0);
        Checks.with(x, "0r2r0r1r0r2r0r");
        due("15: but for 0 in PATTERN 0", x.count(10), 0);
        due("15: count(-1)", x.count(-1), OUTSIDE);
        due("15: count(11)", x.count(11), OUTSIDE);
        for (int far : FAR) due("15: count(" + far + ")", x.count(far), OUTSIDE);
    }

    private static void promise16Digest() {
        DisturbedCells x = Checks.with(3, 5, "or0r3z4rr");
        x.scramble(7, 4, 5);
        x.letter('q');
        x.letter('~');
        long h = 1721;
        for (int cell = 0; cell < 15; cell++) {
            for (int what = 0; what <= 2; what++) h = 31 * h + x.cell(cell, what);
            for (int what = 10; what <= 13; what++) h = 31 * h + x.cell(cell, what);
            h = 31 * h + x.seen(cell);
            for (int what = 0; what <= 3; what++) h = 31 * h + x.found(cell, 0, what);
            for (int what = 0; what <= 3; what++) h = 31 * h + x.found(cell, 1, what);
        }
        for (int what = 0; what <= 3; what++) h = 31 * h + x.found(0, 2, what);
        for (int what = 0; what <= 3; what++) h = 31 * h + x.found(6, 2, what);
        for (int address = 0; address < 15; address++) h = 31 * h + x.at(address);
        for (int what = 0; what <= 5; what++) h = 31 * h + x.run(NONE, what);
        h = 31 * (31 * h + 'q') + '~';
        for (int what = 0; what <= 10; what++) h = 31 * h + x.count(what);
        due("16: digest()", x.digest(), h);
        due("16: digest() again", x.digest(), h);
        due("16: digest() of a TEST that ../shared/tests has", Checks.with("zr0r1r2r3r4r").digest(), -5209441155200201970L);
    }
}
