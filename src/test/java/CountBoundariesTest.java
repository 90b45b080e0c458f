import java.math.BigInteger;
import java.util.ArrayList;
import java.util.List;
import java.util.Map;

/** Promises 15 and 16, and the 512 calls of an object: each sentence that names a boundary case. */
public final class CountBoundariesTest {
    private static final Checks CHECKS = new Checks();
    private static final int NONE = DisturbedCells.NONE;
    private static final int OUTSIDE = DisturbedCells.OUTSIDE;
    private static final int MOST_CALLS = 512;

    public static void main(String[] args) {
        countWhat();
        lettersCounted();
        opsOfEachSign();
        opsByBound();
        seenWholeByGray();
        seenWholeButForOne();
        digestOfNewObject();
        digestOfOneStepAndFullPage();
        for (Scene scene : Scene.all()) digestOf(scene);
        digestOfEachLetter();
        eachCallFor512Times();
        all512Calls();
        CHECKS.end();
    }

    private static void due(String call, long got, long want) {
        CHECKS.due(call, got, want);
    }

    // 15: "OUTSIDE"

    private static void countWhat() {
        for (Scene scene : Scene.all()) {
            DisturbedCells x = scene.make().get();
            for (int what = -20; what <= 40; what++) {
                boolean can = what >= 0 && what <= 10;
                CHECKS.holds("15: count(" + what + "), " + scene.name(), can ? x.count(what) >= 0 : x.count(what) == OUTSIDE);
            }
            for (int far : new int[] {Integer.MIN_VALUE, -65536, 256, 65536, Integer.MAX_VALUE}) {
                due("15: count(" + far + ")", x.count(far), OUTSIDE);
            }
        }
    }

    // 15: "0 letters of THE PAGE"

    private static void lettersCounted() {
        DisturbedCells x = new DisturbedCells();
        due("15: letters at first", x.count(0), 0);
        for (int many = 1; many <= 62; many++) {
            x.letter('r');
            due("15: letters", x.count(0), Math.min(many, 60));
        }
        x.letter(127);
        due("15: behind a refused one", x.count(0), 60);
        x.test();
        due("15: behind test()", x.count(0), 0);
        due("15: STEPS", x.count(6), 60);
    }

    // 15: "7 OPS": "how often a CELL is written or read by the TEST"

    private static void opsOfEachSign() {
        // ROWS, COLUMNS, then how many CELLS of TYPES 0 to 4 there are
        int[][] due = {{3, 3, 2, 2, 2, 1, 2}, {3, 4, 2, 3, 3, 2, 2}, {4, 3, 3, 2, 3, 2, 2}, {3, 5, 3, 3, 3, 3, 3}, {4, 4, 3, 3, 4, 3, 3},
            {5, 5, 5, 5, 5, 5, 5}};
        for (int[] row : due) {
            for (int type = 0; type < 5; type++) {
                due("15: OPS of " + type, Checks.with(row[0], row[1], String.valueOf(type)).count(7), row[2 + type]);
            }
            for (String sign : new String[] {"z", "o", "r"}) {
                due("15: OPS of " + sign, Checks.with(row[0], row[1], sign).count(7), row[0] * row[1]);
            }
            int each = 4 * row[0] * row[1];
            due("15: OPS of all", Checks.with(row[0], row[1], "zor01234").count(7), each);
            due("15: OPS of all, on TURNED ROWS", turned(row[0], row[1]).count(7), each);
        }
        due("15: the most", Checks.with(5, 5, "r".repeat(60)).count(7), 1500);
    }

    private static DisturbedCells turned(int rows, int columns) {
        DisturbedCells x = Checks.with(rows, columns, "zor01234");
        x.scramble(rows * columns - 1, 1, 7);
        return x;
    }

    // 15: "8 and 9 OPS by BOUND (above, below; in lowest terms; 0 is 0 by 1)"

    private static void opsByBound() {
        // ROWS, COLUMNS, then above and below by "r", by 60 of it, by GRAY
        int[][] due = {{3, 3, 9, 328, 135, 82, 357, 328}, {3, 4, 6, 229, 360, 229, 235, 229}, {4, 3, 6, 229, 360, 229, 239, 229},
            {3, 5, 5, 196, 75, 49, 1, 1}, {5, 3, 5, 196, 75, 49, 1, 1}, {4, 4, 16, 621, 320, 207, 625, 621},
            {4, 5, 5, 196, 75, 49, 1, 1}, {5, 4, 5, 196, 75, 49, 1, 1}, {5, 5, 5, 196, 75, 49, 1, 1}};
        for (int[] row : due) {
            DisturbedCells x = new DisturbedCells();
            x.sheet(row[0], row[1]);
            String which = row[0] + " by " + row[1];
            byBound(which + ", no TEST", x, 0, 1);
            byBound(which + ", r", Checks.with(x, "r"), row[2], row[3]);
            byBound(which + ", 60 of r", Checks.with(x, "r".repeat(60)), row[4], row[5]);
            x.gray();
            byBound(which + ", GRAY", x, row[6], row[7]);
        }
        byBound("1 by BOUND", Checks.with(3, 3, "3"), 1, 328);
        byBound("2 by BOUND", Checks.with(3, 3, "33"), 1, 164);
        byBound("BOUND by BOUND", Checks.with(3, 3, "r".repeat(36) + "3333"), 1, 1);
        byBound("BOUND and 1", Checks.with(3, 3, "r".repeat(36) + "33333"), 329, 328);
        byBound("BOUND less 1", Checks.with(3, 3, "r".repeat(36) + "333"), 327, 328);
        byBound("half as much again as BOUND", Checks.with(3, 3, "r".repeat(54) + "000"), 3, 2);
    }

    private static void byBound(String which, DisturbedCells x, int above, int below) {
        due("15: " + which + ", above", x.count(8), above);
        due("15: " + which + ", below", x.count(9), below);
    }

    // 15: "10 CELLS that were SEEN with each BIT in each PATTERN in which all BITS of NEIGHBOURS that are not there are 0"

    private static void seenWholeByGray() {
        for (int rows = 3; rows <= 5; rows++) {
            for (int columns = 3; columns <= 5; columns++) {
                DisturbedCells x = Checks.with(rows, columns, "zor01234r");
                due("15: seen whole", x.count(10), 0);
                x.gray();
                due("15: seen whole by GRAY", x.count(10), rows * columns);
                x.scramble(1, 1, 7);
                due("15: on TURNED ROWS too", x.count(10), rows * columns);
            }
        }
    }

    private static void seenWholeButForOne() {
        // GRAY of three TYPES: a corner and those two beside it; on 3 by 3 corners 0, 2, 6, 8 have 0 2 1, 4 2 0, 2 1 4, 1 0 4
        String[] corners = {"021", "420", "214", "104"};
        for (String types : corners) {
            StringBuilder text = new StringBuilder("r");
            for (int k = 1; k <= 7; k++) text.append(types.charAt(Integer.numberOfTrailingZeros(k))).append('r');
            due("15: one corner, " + types, Checks.with(3, 3, text.toString()).count(10), 1);
            for (int place = 0; place < text.length(); place++) {
                if (text.charAt(place) != 'r') continue;
                String less = new StringBuilder(text).deleteCharAt(place).toString();
                due("15: not read at " + place + ", " + types, Checks.with(3, 3, less).count(10), 0);
            }
        }
    }

    // 16: "h is 1721, then for each of these numbers, in order, 31 times h, and it (as longs, wrapping)"

    private static long wrapped(List<Long> numbers) {
        BigInteger h = BigInteger.valueOf(1721);
        for (long number : numbers) h = h.multiply(BigInteger.valueOf(31)).add(BigInteger.valueOf(number));
        return h.longValue();
    }

    private static void add(List<Long> numbers, int... more) {
        for (int number : more) numbers.add((long) number);
    }

    private static void digestOfNewObject() {
        int[] types = {0, 2, 4, 1, 1, 3, 0, 2, 2, 4, 1, 3, 3, 0, 2, 4};
        int[] above = {-1, -1, -1, -1, 0, 1, 2, 3, 4, 5, 6, 7, 8, 9, 10, 11};
        int[] right = {1, 2, 3, -1, 5, 6, 7, -1, 9, 10, 11, -1, 13, 14, 15, -1};
        int[] below = {4, 5, 6, 7, 8, 9, 10, 11, 12, 13, 14, 15, -1, -1, -1, -1};
        int[] left = {-1, 0, 1, 2, -1, 4, 5, 6, -1, 8, 9, 10, -1, 12, 13, 14};
        int[] held = {8, 16, 16, 8, 16, 32, 32, 16, 16, 32, 32, 16, 8, 16, 16, 8};
        List<Long> numbers = new ArrayList<>();
        for (int cell = 0; cell < 16; cell++) {
            add(numbers, types[cell], cell, 0, above[cell], right[cell], below[cell], left[cell], 0);
            add(numbers, held[cell], 0, 1000 * cell, NONE, held[cell], 0, 1000 * cell + 300, NONE);
        }
        add(numbers, 16, 0, 632, NONE, 128, 0, 5600, NONE);
        for (int address = 0; address < 16; address++) add(numbers, address);
        add(numbers, NONE, NONE, NONE, 0, 0, 0);
        add(numbers, 0, 4, 4, 1, 0, 0, 0, 0, 0, 1, 0);
        due("16: digest() of a new object", new DisturbedCells().digest(), wrapped(numbers));
    }

    private static void digestOfOneStepAndFullPage() {
        int[] types = {0, 2, 4, 1, 3, 0, 2, 4, 1};
        int[][] besides = {{-1, 1, 3, -1}, {-1, 2, 4, 0}, {-1, -1, 5, 1}, {0, 4, 6, -1}, {1, 5, 7, 3}, {2, -1, 8, 4}, {3, 7, -1, -1},
            {4, 8, -1, 6}, {5, -1, -1, 7}};
        int[] held = {8, 16, 8, 16, 32, 16, 8, 16, 8};
        List<Long> numbers = new ArrayList<>();
        // scramble(8, 8, 4): ADDRESS a is CELL 8 - a; the last ROW is TURNED
        for (int cell = 0; cell < 9; cell++) {
            add(numbers, types[cell], 8 - cell, cell / 3 == 2 ? 1 : 0);
            add(numbers, besides[cell]);
            add(numbers, 1, held[cell], 1, 1000 * cell, 0, held[cell], 0, 1000 * cell + 300, NONE);
        }
        add(numbers, 16, 0, 632, NONE, 128, 0, 4600, NONE);
        add(numbers, 8, 7, 6, 5, 4, 3, 2, 1, 0, NONE, NONE, NONE, 0, 0, 0);
        DisturbedCells x = Checks.with(3, 3, "r");
        x.scramble(8, 8, 4);
        for (int many = 0; many < 60; many++) {
            int code = many % 2 == 0 ? 32 + many : 126;
            x.letter(code);
            add(numbers, code);
        }
        x.letter('r');
        add(numbers, 60, 3, 3, 8, 8, 4, 1, 9, 9, 328, 0);
        due("16: digest() with a full PAGE", x.digest(), wrapped(numbers));
    }

    private static void digestOf(Scene scene) {
        Map<String, Long> answers = Answers.of(scene.make());
        List<String> calls = new ArrayList<>();
        for (int cell = 0; cell < scene.cells(); cell++) {
            for (int what : new int[] {0, 1, 2, 10, 11, 12, 13}) calls.add("cell(" + cell + ", " + what + ")");
            calls.add("seen(" + cell + ")");
            for (int kind = 0; kind <= 1; kind++) {
                for (int what = 0; what <= 3; what++) calls.add("found(" + cell + ", " + kind + ", " + what + ")");
            }
        }
        for (int cell : new int[] {0, scene.columns() + 1}) {
            for (int what = 0; what <= 3; what++) calls.add("found(" + cell + ", 2, " + what + ")");
        }
        for (int address = 0; address < scene.cells(); address++) calls.add("at(" + address + ")");
        for (int what = 0; what <= 5; what++) calls.add("run(-1, " + what + ")");
        List<Long> numbers = new ArrayList<>();
        for (String call : calls) numbers.add(answers.get(call));
        for (char letter : scene.page().toCharArray()) numbers.add((long) letter);
        for (int what = 0; what <= 10; what++) numbers.add(answers.get("count(" + what + ")"));
        due("16: digest() of " + scene.name(), answers.get("digest()"), wrapped(numbers));
        DisturbedCells x = scene.make().get();
        x.digest();
        due("16: digest() again, it changes nothing", x.digest(), wrapped(numbers));
    }

    /** Letters of THE PAGE come ahead of eleven numbers, of which the first is how many letters there are. */
    private static void digestOfEachLetter() {
        DisturbedCells first = new DisturbedCells();
        first.letter(32);
        long ofBlank = first.digest();
        long weight = 1;
        for (int what = 0; what <= 10; what++) weight *= 31;
        for (int code = 32; code <= 126; code++) {
            DisturbedCells x = new DisturbedCells();
            x.letter(code);
            due("16: digest() with letter " + code, x.digest(), ofBlank + weight * (code - 32));
        }
    }

    // "An object is used for at most 512 calls after it has been made"

    private static void eachCallFor512Times() {
        long before = new DisturbedCells().digest();
        DisturbedCells letters = new DisturbedCells();
        DisturbedCells digests = new DisturbedCells();
        DisturbedCells sheets = new DisturbedCells();
        DisturbedCells grays = new DisturbedCells();
        for (int call = 1; call < MOST_CALLS; call++) {
            due("letter, call " + call, letters.letter('r'), call <= 60 ? call : DisturbedCells.FULL);
            due("digest, call " + call, digests.digest(), before);
            due("sheet, call " + call, sheets.sheet(3 + call % 3, 3 + call % 2), (3 + call % 3) * (3 + call % 2));
            due("gray, call " + call, grays.gray(), 64);
        }
        due("letters, call 512", letters.count(0), 60);
        due("digests, call 512", digests.digest(), before);
        due("sheets, call 512", sheets.sheet(4, 4), 16);
        due("grays, call 512", grays.count(10), 16);
    }

    private static void all512Calls() {
        DisturbedCells x = new DisturbedCells();
        int calls = 0;
        while (calls + 80 < MOST_CALLS) {
            x.sheet(5, 5);
            x.scramble(24, 24, 31);
            for (int letter = 0; letter <= 60; letter++) x.letter('o');
            x.fault();
            x.test();
            x.digest();
            x.run(24715, 5);
            x.gray();
            x.letter('~');
            x.test();
            x.blank();
            calls += 71;
        }
        while (calls + 1 < MOST_CALLS) {
            x.found(calls % 25, 2, 3);
            calls++;
        }
        DisturbedCells fresh = new DisturbedCells();
        fresh.sheet(5, 5);
        fresh.scramble(24, 24, 31);
        fresh.gray();
        due("call 512 of an object used for all", x.digest(), fresh.digest());
    }
}
