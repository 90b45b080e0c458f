/** Promises 1 to 7: each sentence that names a boundary case, the last that is taken, the first that is refused. */
public final class TextBoundariesTest {
    private static final Checks CHECKS = new Checks();
    private static final int UNKNOWN = DisturbedCells.UNKNOWN;
    private static final int OUTSIDE = DisturbedCells.OUTSIDE;
    private static final int STATE = DisturbedCells.STATE;
    private static final int FULL = DisturbedCells.FULL;
    private static final int NONE = DisturbedCells.NONE;
    private static final int LEAST = Integer.MIN_VALUE;
    private static final int GREATEST = Integer.MAX_VALUE;

    public static void main(String[] args) {
        withoutTestTexts();
        withoutTestSeen();
        withoutTestRun();
        withoutTestFound();
        withoutTestOnEachSheet();
        letterCodes();
        letterFull();
        letterOfSeveralTheFirst();
        blankEmptyAndFull();
        faultIsThePlaceOfTheFirst();
        faultWithoutOne();
        testOfOneSign();
        testOfSixtySigns();
        testIsNone();
        testEmptiesThePage();
        anotherOneIsGone();
        grayIsMoreThanAText();
        grayKeepsThePage();
        stepUnknown();
        CHECKS.end();
    }

    private static void due(String call, long got, long want) {
        CHECKS.due(call, got, want);
    }

    private static DisturbedCells withPage(String text) {
        DisturbedCells x = new DisturbedCells();
        Scene.write(x, text);
        return x;
    }

    // 1: "A SHEET of 4 by 4, no TEST (without STEPS)"

    private static void withoutTestTexts() {
        DisturbedCells x = new DisturbedCells();
        due("1: ROWS at first", x.count(1), 4);
        due("1: COLUMNS at first", x.count(2), 4);
        due("1: FACTOR at first", x.count(3), 1);
        due("1: SHIFT at first", x.count(4), 0);
        due("1: TURNED ROWS at first", x.count(5), 0);
        due("1: no STEPS", x.count(6), 0);
        due("1: no OPS", x.count(7), 0);
        due("1: step(0)", x.step(0), UNKNOWN);
        due("1: no letters", x.count(0), 0);
        due("1: fault()", x.fault(), 0);
        due("1: blank()", x.blank(), 0);
        due("1: test()", x.test(), STATE);
        due("1: still no STEPS", x.count(6), 0);
        for (int address = 0; address < 16; address++) due("1: at(" + address + ")", x.at(address), address);
        due("1: at(16)", x.at(16), UNKNOWN);
    }

    private static void withoutTestSeen() {
        DisturbedCells x = new DisturbedCells();
        for (int cell = 0; cell < 16; cell++) due("1: seen(" + cell + ")", x.seen(cell), 0);
        due("1: none is seen whole", x.count(10), 0);
    }

    private static void withoutTestRun() {
        DisturbedCells x = new DisturbedCells();
        int[] none = {NONE, NONE, NONE, 0, 0, 0};
        for (int what = 0; what <= 5; what++) {
            due("1: run(NONE, " + what + ")", x.run(NONE, what), none[what]);
            // HELD becomes v at the beginning already, yet nothing is read
            int[] held = {NONE, NONE, NONE, 0, 0, 1 << 15};
            due("1: run(15001, " + what + ")", x.run(15001, what), held[what]);
            for (int fault : new int[] {15000, 15019, 15301, 15601, 15715}) {
                due("1: run(" + fault + ", " + what + ")", x.run(fault, what), none[what]);
            }
            due("1: run(15020, " + what + ")", x.run(15020, what), UNKNOWN);
        }
    }

    private static void withoutTestFound() {
        DisturbedCells x = new DisturbedCells();
        int[][] due = {
            {0, 0, 8, 0}, {0, 1, 8, 300}, {0, 2, 16, 632}, {1, 0, 16, 1000}, {1, 1, 16, 1300}, {1, 2, 48, 1632},
            {5, 0, 32, 5000}, {5, 1, 32, 5300}, {5, 2, 128, 5600}, {15, 0, 8, 15000}, {15, 1, 8, 15300},
            {15, 2, 16, 15600},
        };
        for (int[] row : due) {
            String which = "1: found(" + row[0] + ", " + row[1];
            due(which + ", 0)", x.found(row[0], row[1], 0), row[2]);
            due(which + ", 1)", x.found(row[0], row[1], 1), 0);
            due(which + ", 2)", x.found(row[0], row[1], 2), row[3]);
            due(which + ", 3)", x.found(row[0], row[1], 3), NONE);
        }
    }

    private static void withoutTestOnEachSheet() {
        for (int rows = 3; rows <= 5; rows++) {
            for (int columns = 3; columns <= 5; columns++) {
                DisturbedCells x = new DisturbedCells();
                int last = x.sheet(rows, columns) - 1;
                String which = "1: " + rows + " by " + columns + ", ";
                due(which + "seen", x.seen(last), 0);
                due(which + "run(NONE, 5)", x.run(NONE, 5), 0);
                due(which + "HELD at the last CELL", x.run(1000 * last + 1, 5), 1 << last);
                due(which + "found", x.found(last, 2, 1), 0);
                due(which + "OPS above", x.count(8), 0);
                due(which + "BOUND below", x.count(9), 1);
                due(which + "seen whole", x.count(10), 0);
            }
        }
    }

    // 2: "OUTSIDE: code (32 to 126); FULL: above 60"

    private static void letterCodes() {
        for (int code = -300; code <= 700; code++) {
            due("2: letter(" + code + ")", new DisturbedCells().letter(code), code >= 32 && code <= 126 ? 1 : OUTSIDE);
        }
        // codes that would be taken if they were cut to a byte or a char
        for (int far : new int[] {LEAST, LEAST + 'z', 65536 + 'z', -65536 + 'z', 1 << 30, GREATEST - 255 + 'z', GREATEST}) {
            due("2: letter(" + far + ")", new DisturbedCells().letter(far), OUTSIDE);
        }
        DisturbedCells x = withPage(" ~");
        due("2: both ends are there", x.count(0), 2);
        due("2: behind refused ones", x.letter(31) + x.letter(127) - 2 * OUTSIDE + x.letter('r'), 3);
    }

    private static void letterFull() {
        DisturbedCells x = new DisturbedCells();
        for (int many = 1; many <= 60; many++) due("2: letter " + many, x.letter('r'), many);
        long before = x.digest();
        for (int code : new int[] {'z', 'r', 32, 126}) due("2: letter 61, " + code, x.letter(code), FULL);
        due("2: as many as before", x.count(0), 60);
        due("2: the same as before", x.digest(), before);
        due("2: read as they were", x.test(), 60);
        due("2: there is room then", x.letter('z'), 1);
        Scene.write(x, "o".repeat(60));
        due("2: full again", x.count(0), 60);
        due("2: blank()", x.blank(), 60);
        due("2: there is room then, too", x.letter('z'), 1);
    }

    private static void letterOfSeveralTheFirst() {
        DisturbedCells x = withPage("r".repeat(60));
        for (int code : new int[] {31, 127, LEAST, GREATEST}) due("2: full, letter(" + code + ")", x.letter(code), OUTSIDE);
        due("2: full", x.count(0), 60);
    }

    // 3: "THE PAGE is empty: how many letters it had"

    private static void blankEmptyAndFull() {
        for (int many : new int[] {0, 1, 59, 60}) {
            for (String letter : new String[] {"r", "~"}) {
                DisturbedCells x = Checks.with("zr0");
                Scene.write(x, letter.repeat(many));
                due("3: blank() of " + many, x.blank(), many);
                due("3: blank() again", x.blank(), 0);
                due("3: it has none", x.count(0), 0);
                due("3: fault() of none", x.fault(), 0);
                due("3: test() of none", x.test(), STATE);
                due("3: the TEST stays", x.count(6), 3);
                due("3: the first is the first", x.letter('o'), 1);
                due("3: and alone is read", x.test(), 1);
                due("3: by its code", x.step(0), 'o');
            }
        }
    }

    // 4: "The place (from 0) of the first letter of THE PAGE that no TEST has there; how many letters it has, .."

    private static void faultIsThePlaceOfTheFirst() {
        for (int code = 32; code <= 126; code++) {
            boolean sign = Scene.SIGNS.indexOf(code) >= 0;
            String letter = String.valueOf((char) code);
            due("4: fault() of " + code, withPage(letter).fault(), sign ? 1 : 0);
            due("4: fault() of r and " + code, withPage("r" + letter).fault(), sign ? 2 : 1);
            due("4: fault() of " + code + " as the last of 60", withPage("0".repeat(59) + letter).fault(), sign ? 60 : 59);
        }
        for (int place = 0; place < 60; place++) {
            DisturbedCells x = withPage("4".repeat(place) + "5" + "q".repeat(59 - place));
            due("4: fault() at " + place, x.fault(), place);
        }
    }

    private static void faultWithoutOne() {
        due("4: fault() of none", new DisturbedCells().fault(), 0);
        for (int many = 1; many <= 60; many++) due("4: fault() of " + many, withPage("4".repeat(many)).fault(), many);
        DisturbedCells x = withPage("zq");
        long before = x.digest();
        x.fault();
        due("4: it changes nothing", x.digest(), before);
    }

    // 5: "THE PAGE is read as the TEST (another one is gone) .. STATE: it is none"; "one to 60 signs"

    private static void testOfOneSign() {
        for (int code = 32; code <= 126; code++) {
            DisturbedCells x = Checks.with("zr");
            x.letter(code);
            boolean sign = Scene.SIGNS.indexOf(code) >= 0;
            due("5: test() of " + code, x.test(), sign ? 1 : STATE);
            due("5: behind " + code + ", STEPS", x.count(6), sign ? 1 : 2);
            due("5: behind " + code + ", STEP 0", x.step(0), sign ? code : 'z');
            due("5: behind " + code + ", STEP 1", x.step(1), sign ? UNKNOWN : 'r');
            due("5: behind " + code + ", THE PAGE", x.count(0), sign ? 0 : 1);
        }
    }

    private static void testOfSixtySigns() {
        for (int many : new int[] {59, 60}) {
            DisturbedCells x = withPage("0".repeat(many - 1) + "r");
            due("5: test() of " + many, x.test(), many);
            due("5: its last STEP", x.step(many - 1), 'r');
            due("5: none behind it", x.step(many), UNKNOWN);
            due("5: STEPS", x.count(6), many);
        }
        DisturbedCells x = withPage("o".repeat(60));
        due("5: a sign that is too many", x.letter('r'), FULL);
        due("5: test() without it", x.test(), 60);
        due("5: STEP 59", x.step(59), 'o');
        due("5: STEP 60", x.step(60), UNKNOWN);
    }

    private static void testIsNone() {
        String[] pages = {"", "5", " ", "zr ", " zr", "z r", "Z", "O", "R", "r".repeat(59) + "/", "/" + "r".repeat(59)};
        for (String page : pages) {
            DisturbedCells x = Checks.with("o3r");
            Scene.write(x, page);
            long before = x.digest();
            due("5: test() of '" + page + "'", x.test(), STATE);
            due("5: the letters stay", x.count(0), page.length());
            due("5: the STEPS stay", x.count(6), 3);
            due("5: all stays", x.digest(), before);
            due("5: so it is none again", x.test(), STATE);
        }
    }

    private static void testEmptiesThePage() {
        DisturbedCells x = withPage("zr");
        due("5: test()", x.test(), 2);
        due("5: THE PAGE is empty", x.count(0), 0);
        due("5: blank() of it", x.blank(), 0);
        due("5: test() of it", x.test(), STATE);
        due("5: the TEST is that one", x.step(1), 'r');
        x.letter('o');
        due("5: another one", x.test(), 1);
        due("5: STEP 0", x.step(0), 'o');
        due("5: the one before is gone", x.step(1), UNKNOWN);
    }

    /** The same question right ahead of a change and right behind it: nothing is left of what was worked out before. */
    private static void anotherOneIsGone() {
        DisturbedCells x = withPage("or");
        due("5: no TEST, seen(5)", x.seen(5), 0);
        due("5: test()", x.test(), 2);
        due("5: or, seen(5)", x.seen(5), LEAST);
        x.letter('r');
        due("5: or still, seen(5)", x.seen(5), LEAST);
        due("5: another test()", x.test(), 1);
        due("5: r, seen(5)", x.seen(5), 1);
        due("5: r, found(5, 0, 1)", x.found(5, 0, 1), 1);
        x.gray();
        due("6: GRAY, found(5, 0, 1)", x.found(5, 0, 1), 32);
        x.sheet(3, 3);
        due("8: at the rim now, found(5, 0, 1)", x.found(5, 0, 1), 16);
        due("8: run(5001, 0)", x.run(5001, 0), 1);
        x.letter('r');
        x.test();
        due("5: r, run(5001, 0)", x.run(5001, 0), 0);
    }

    // 6: "(so it has 64 STEPS: more than a text)"

    private static void grayIsMoreThanAText() {
        DisturbedCells x = withPage("1".repeat(60));
        x.test();
        due("6: gray() behind a text of 60", x.gray(), 64);
        due("6: STEPS", x.count(6), 64);
        for (int place = 0; place < 64; place++) due("6: step(" + place + ")", x.step(place), Scene.GRAY.charAt(place));
        due("6: none behind the last", x.step(64), UNKNOWN);
        due("6: gray() behind gray()", x.gray(), 64);
        due("6: STEPS", x.count(6), 64);
        due("6: STEP 0", x.step(0), 'z');
        due("6: STEP 63", x.step(63), 'r');
        Scene.write(x, Scene.GRAY);
        due("6: as a text only 60 letters come", x.count(0), 60);
        due("6: of which a TEST is read", x.test(), 60);
        due("6: STEP 59", x.step(59), Scene.GRAY.charAt(59));
        due("6: GRAY is gone", x.step(60), UNKNOWN);
    }

    private static void grayKeepsThePage() {
        for (int many : new int[] {0, 1, 60}) {
            DisturbedCells x = withPage("~".repeat(many));
            due("6: gray()", x.gray(), 64);
            due("6: THE PAGE has " + many, x.count(0), many);
            due("6: and stays as it was", x.fault(), 0);
            due("6: with place for " + (60 - many), x.letter('z'), many < 60 ? many + 1 : FULL);
        }
    }

    // 7: "STEP of the TEST, by its place: the code of its sign. UNKNOWN."

    private static void stepUnknown() {
        for (String text : new String[] {"", "z", "zor01234", "r".repeat(59), "4".repeat(60)}) {
            DisturbedCells x = text.isEmpty() ? new DisturbedCells() : Checks.with(text);
            for (int place = 0; place < text.length(); place++) {
                due("7: step(" + place + ") of " + text, x.step(place), text.charAt(place));
            }
            for (int place : new int[] {LEAST, -64, -1, text.length(), text.length() + 1, 63, 64, 65, GREATEST}) {
                due("7: step(" + place + ") of " + text, x.step(place), UNKNOWN);
            }
        }
        DisturbedCells x = Checks.with("z");
        Scene.write(x, "or");
        due("7: letters of THE PAGE are no STEPS", x.step(1), UNKNOWN);
        x.gray();
        for (int place : new int[] {LEAST, -1, 64, 65, GREATEST}) due("7: GRAY, step(" + place + ")", x.step(place), UNKNOWN);
    }
}
