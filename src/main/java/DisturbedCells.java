/** Memory cells that disturb their neighbours; ../shared/DOC.md tells what each call answers. */
public final class DisturbedCells {
    public static final int NONE = -1, UNKNOWN = -1001, OUTSIDE = -1002, STATE = -1003, FULL = -1004;

    private static final int MOST_LETTERS = 60;
    private static final int GRAY_STEPS = 64;
    private static final int LEAST_SIDE = 3;
    private static final int MOST_SIDE = 5;
    private static final int MOST_CELLS = 25;
    private static final int TYPES = 5;
    private static final int NEIGHBOURS = 4;
    private static final int PATTERNS = 16;
    /** No two ints need more for their common divisor. */
    private static final int MOST_DIVISIONS = 64;

    private static final int HELD = 0;
    private static final int STUCK = 1;
    private static final int TURNING = 2;
    private static final int MOST_PARTS = 128;

    private final Signs page;
    private final Signs steps;
    private final Plane plane;
    private final Bench bench;

    public DisturbedCells() {
        page = new Signs();
        steps = new Signs();
        plane = new Plane();
        bench = new Bench();
    }

    // ---- texts

    public int letter(int code) {
        if (code < 32 || code > 126) {
            return OUTSIDE;
        }
        if (page.length >= MOST_LETTERS) {
            return FULL;
        }
        page.add(code);
        return page.length;
    }

    public int blank() {
        int had = page.length;
        page.clear();
        return had;
    }

    public int fault() {
        for (int place = 0; place < page.length; place++) {
            if (!isSign(page.get(place))) {
                return place;
            }
        }
        return page.length;
    }

    public int test() {
        if (page.length == 0 || fault() < page.length) {
            return STATE;
        }
        steps.clear();
        for (int place = 0; place < page.length; place++) {
            steps.add(page.get(place));
        }
        page.clear();
        bench.forget();
        return steps.length;
    }

    public int gray() {
        steps.clear();
        steps.add('z');
        steps.add('r');
        for (int k = 1; k < GRAY_STEPS / 2; k++) {
            steps.add('0' + Integer.numberOfTrailingZeros(k));
            steps.add('r');
        }
        bench.forget();
        return steps.length;
    }

    public int step(int place) {
        return place < 0 || place >= steps.length ? UNKNOWN : steps.get(place);
    }

    // ---- the sheet

    public int sheet(int rows, int columns) {
        if (!plane.lay(rows, columns)) {
            return OUTSIDE;
        }
        bench.forget();
        return plane.cells;
    }

    public int scramble(int factor, int shift, int turned) {
        if (!plane.mix(factor, shift, turned)) {
            return OUTSIDE;
        }
        int own = 0;
        for (int address = 0; address < plane.cells; address++) {
            if (plane.cellOf(address) == address) {
                own++;
            }
        }
        return own;
    }

    public int cell(int cell, int what) {
        if (!plane.has(cell)) {
            return UNKNOWN;
        }
        switch (what) {
            case 0:
                return plane.typeOf(cell);
            case 1:
                return plane.addressOf(cell);
            case 2:
                return plane.turnedAt(cell);
            case 10:
            case 11:
            case 12:
            case 13:
                return plane.beside(cell, what - 10);
            default:
                return OUTSIDE;
        }
    }

    public int at(int address) {
        return plane.has(address) ? plane.cellOf(address) : UNKNOWN;
    }

    // ---- tests, faults

    public int run(int fault, int what) {
        int cell = fault / 1000;
        int kind = fault % 1000 / 300;
        int part = fault % 1000 % 300;
        if (fault != NONE && !isFault(fault, cell, kind, part)) {
            return UNKNOWN;
        }
        if (what < 0 || what > 5) {
            return OUTSIDE;
        }
        if (fault == NONE) {
            return runWithout(what);
        }
        bench.work(plane, steps, cell, kind);
        return runWith(cell, part, what);
    }

    public int found(int cell, int kind, int what) {
        if (!plane.has(cell) || kind < HELD || kind > TURNING) {
            return UNKNOWN;
        }
        if (what < 0 || what > 3) {
            return OUTSIDE;
        }
        bench.work(plane, steps, cell, kind);
        switch (what) {
            case 0:
                return bench.howMany();
            case 1:
                return bench.howManyMissed();
            case 2:
                return bench.leastHidden();
            default:
                return bench.latestFirst();
        }
    }

    public int seen(int cell) {
        if (!plane.has(cell)) {
            return UNKNOWN;
        }
        bench.work(plane, steps, cell, NONE);
        return bench.sights;
    }

    public int count(int what) {
        switch (what) {
            case 0:
                return page.length;
            case 1:
                return plane.rows;
            case 2:
                return plane.columns;
            case 3:
                return plane.factor;
            case 4:
                return plane.shift;
            case 5:
                return plane.turned;
            case 6:
                return steps.length;
            case 7:
                return ops();
            case 8:
                return lowered(ops());
            case 9:
                return lowered(bound());
            case 10:
                return cellsSeenWhole();
            default:
                return OUTSIDE;
        }
    }

    public long digest() {
        long h = 1721;
        for (int cell = 0; cell < plane.cells; cell++) {
            h = joinCell(h, cell);
            h = joinFound(h, cell, HELD, STUCK);
        }
        h = joinFound(h, 0, TURNING, TURNING);
        h = joinFound(h, plane.columns + 1, TURNING, TURNING);
        for (int address = 0; address < plane.cells; address++) {
            h = join(h, at(address));
        }
        for (int what = 0; what <= 5; what++) {
            h = join(h, run(NONE, what));
        }
        for (int place = 0; place < page.length; place++) {
            h = join(h, page.get(place));
        }
        for (int what = 0; what <= 10; what++) {
            h = join(h, count(what));
        }
        return h;
    }

    private long joinCell(long before, int cell) {
        long h = before;
        for (int what = 0; what <= 2; what++) {
            h = join(h, cell(cell, what));
        }
        for (int what = 10; what <= 13; what++) {
            h = join(h, cell(cell, what));
        }
        return join(h, seen(cell));
    }

    private long joinFound(long before, int cell, int firstKind, int lastKind) {
        long h = before;
        for (int kind = firstKind; kind <= lastKind; kind++) {
            for (int what = 0; what <= 3; what++) {
                h = join(h, found(cell, kind, what));
            }
        }
        return h;
    }

    private static long join(long h, long number) {
        return 31 * h + number;
    }

    private static boolean isSign(int code) {
        return code == 'z' || code == 'o' || code == 'r' || isFigure(code);
    }

    private static boolean isFigure(int code) {
        return code >= '0' && code < '0' + TYPES;
    }

    private boolean isFault(int fault, int cell, int kind, int part) {
        return fault >= 0 && plane.has(cell) && isPart(kind, part, plane.there(cell));
    }

    /** Whether a KIND has a FAULT with this PART at a CELL whose NEIGHBOURS are those of the bits there. */
    private static boolean isPart(int kind, int part, int there) {
        if (part < 0 || part >= partsOf(kind)) {
            return false;
        }
        if (kind != TURNING) {
            return ((part >> 1) & ~there) == 0;
        }
        int k = part >> 5;
        int q = (part >> 1) & 7;
        int below = (1 << k) - 1;
        int around = (q & below) | ((q & ~below) << 1);
        return ((there >> k) & 1) == 1 && (around & ~there) == 0;
    }

    private static int partsOf(int kind) {
        switch (kind) {
            case HELD:
            case STUCK:
                return 2 * PATTERNS;
            case TURNING:
                return MOST_PARTS;
            default:
                return 0;
        }
    }

    private int runWithout(int what) {
        switch (what) {
            case 3:
            case 4:
                return 0;
            case 5:
                return lastBits();
            default:
                return NONE;
        }
    }

    private int runWith(int cell, int part, int what) {
        boolean missed = bench.missesOf(part) > 0;
        switch (what) {
            case 0:
                return missed ? bench.firstStepOf(part) : NONE;
            case 1:
                return missed ? plane.addressOf(cell) : NONE;
            case 2:
                return missed ? bench.firstReadOf(part) ^ plane.turnedAt(cell) : NONE;
            case 3:
                return bench.missesOf(part);
            case 4:
                // A FAULT changes no BIT but that of its own CELL.
                return missed ? 1 : 0;
            default:
                return (lastBits() & ~(1 << cell)) | (bench.lastBitOf(part) << cell);
        }
    }

    /** All BITS at the end of the TEST without a FAULT. */
    private int lastBits() {
        int all = (1 << plane.cells) - 1;
        int bits = 0;
        for (int place = 0; place < steps.length; place++) {
            int sign = steps.get(place);
            if (sign == 'z') {
                bits = 0;
            } else if (sign == 'o') {
                bits = all;
            } else if (isFigure(sign)) {
                bits ^= plane.cellsOfType(sign - '0');
            }
        }
        return bits;
    }

    private int ops() {
        int sum = 0;
        for (int place = 0; place < steps.length; place++) {
            int sign = steps.get(place);
            sum += isFigure(sign) ? Integer.bitCount(plane.cellsOfType(sign - '0')) : plane.cells;
        }
        return sum;
    }

    private int bound() {
        return 33 * plane.cells + 31 * (plane.cells / 5);
    }

    /** One side of OPS by BOUND, in lowest terms. */
    private int lowered(int side) {
        int common = commonDivisor(bound(), ops());
        return common < 1 ? side : side / common;
    }

    private static int commonDivisor(int one, int other) {
        int a = one;
        int b = other;
        for (int turn = 0; turn < MOST_DIVISIONS && b > 0; turn++) {
            int rest = a % b;
            a = b;
            b = rest;
        }
        return a;
    }

    private int cellsSeenWhole() {
        int whole = 0;
        for (int cell = 0; cell < plane.cells; cell++) {
            bench.work(plane, steps, cell, NONE);
            int due = sightsDue(plane.there(cell));
            if ((bench.sights & due) == due) {
                whole++;
            }
        }
        return whole;
    }

    private static int sightsDue(int there) {
        int due = 0;
        for (int pattern = 0; pattern < PATTERNS; pattern++) {
            if ((pattern & ~there) == 0) {
                due |= (1 << pattern) | (1 << (PATTERNS + pattern));
            }
        }
        return due;
    }

    /** A row of signs by their codes: THE PAGE, or the STEPS of the TEST. */
    private static final class Signs {
        private final int[] codes = new int[GRAY_STEPS];
        private int length;

        void clear() {
            length = 0;
        }

        void add(int code) {
            if (length >= 0 && length < codes.length) {
                codes[length] = code;
                length++;
            }
        }

        int get(int place) {
            return place >= 0 && place < length && place < codes.length ? codes[place] : NONE;
        }
    }

    /** The SHEET: where its CELLS are, and which ADDRESSES they have. */
    private static final class Plane {
        private final int[] types = new int[MOST_CELLS];
        private final int[] ofTypes = new int[TYPES];
        private final int[] rowsOf = new int[MOST_CELLS];
        private final int[] besides = new int[NEIGHBOURS * MOST_CELLS];
        private final int[] theres = new int[MOST_CELLS];
        private final int[] cellsOf = new int[MOST_CELLS];
        private final int[] addresses = new int[MOST_CELLS];
        private int rows;
        private int columns;
        private int cells;
        private int factor;
        private int shift;
        private int turned;

        Plane() {
            lay(4, 4);
        }

        /** Whether the SHEET can be so; it is so then. */
        boolean lay(int newRows, int newColumns) {
            if (!isSide(newRows) || !isSide(newColumns)) {
                return false;
            }
            rows = newRows;
            columns = newColumns;
            cells = newRows * newColumns;
            for (int type = 0; type < TYPES; type++) {
                ofTypes[type] = 0;
            }
            for (int row = 0; row < newRows; row++) {
                for (int column = 0; column < newColumns; column++) {
                    layCell(row, column);
                }
            }
            return mix(1, 0, 0);
        }

        private static boolean isSide(int length) {
            return length >= LEAST_SIDE && length <= MOST_SIDE;
        }

        private void layCell(int row, int column) {
            int cell = row * columns + column;
            if (!has(cell)) {
                return;
            }
            int type = (row + 2 * column) % TYPES;
            types[cell] = type;
            ofTypes[type] |= 1 << cell;
            rowsOf[cell] = row;
            theres[cell] = 0;
            layBeside(cell, 0, row > 0, cell - columns);
            layBeside(cell, 1, column < columns - 1, cell + 1);
            layBeside(cell, 2, row < rows - 1, cell + columns);
            layBeside(cell, 3, column > 0, cell - 1);
        }

        private void layBeside(int cell, int k, boolean isThere, int neighbour) {
            if (has(cell) && k >= 0 && k < NEIGHBOURS) {
                besides[NEIGHBOURS * cell + k] = isThere ? neighbour : NONE;
                theres[cell] |= isThere ? 1 << k : 0;
            }
        }

        /** Whether ADDRESSES and ROWS can be scrambled so; they are so then. */
        boolean mix(int newFactor, int newShift, int newTurned) {
            if (newFactor < 1 || newFactor >= cells || commonDivisor(cells, newFactor) != 1) {
                return false;
            }
            if (newShift < 0 || newShift >= cells || newTurned < 0 || newTurned >= (1 << rows)) {
                return false;
            }
            factor = newFactor;
            shift = newShift;
            turned = newTurned;
            int cell = newShift;
            for (int address = 0; address < cells; address++) {
                setAddress(address, cell);
                cell += newFactor;
                cell = cell >= cells ? cell - cells : cell;
            }
            return true;
        }

        private void setAddress(int address, int cell) {
            if (has(address) && has(cell)) {
                cellsOf[address] = cell;
                addresses[cell] = address;
            }
        }

        /** Whether there is a CELL, and so an ADDRESS, of this number. */
        boolean has(int number) {
            return number >= 0 && number < cells && number < MOST_CELLS;
        }

        int typeOf(int cell) {
            return has(cell) ? types[cell] : NONE;
        }

        int addressOf(int cell) {
            return has(cell) ? addresses[cell] : NONE;
        }

        int cellOf(int address) {
            return has(address) ? cellsOf[address] : NONE;
        }

        int turnedAt(int cell) {
            return has(cell) ? (turned >> rowsOf[cell]) & 1 : 0;
        }

        int beside(int cell, int k) {
            return has(cell) && k >= 0 && k < NEIGHBOURS ? besides[NEIGHBOURS * cell + k] : NONE;
        }

        /** Which NEIGHBOURS of a CELL are there, as bits. */
        int there(int cell) {
            return has(cell) ? theres[cell] : 0;
        }

        /** As bits of CELLS. */
        int cellsOfType(int type) {
            return type >= 0 && type < TYPES ? ofTypes[type] : 0;
        }
    }

    /**
     * One CELL and its NEIGHBOURS under the TEST, with all FAULTS of one KIND that the CELL may have.
     * A FAULT changes the BIT of its own CELL alone, and asks about NEIGHBOURS alone: so other CELLS
     * need not be looked at, and all FAULTS can be tried side by side, each with a BIT of its own.
     */
    private static final class Bench {
        private static final int ITSELF = 4;
        /** NEIGHBOURS and the CELL by their numbers, as a STEP writes them. */
        private static final int[] ORDER = {0, 3, ITSELF, 1, 2};

        private final int[] bits = new int[MOST_PARTS];
        private final int[] misses = new int[MOST_PARTS];
        private final int[] firstSteps = new int[MOST_PARTS];
        private final int[] firstReads = new int[MOST_PARTS];
        private final int[] types = new int[NEIGHBOURS + 1];
        private boolean worked;
        private int cell;
        private int kind;
        private int parts;
        private int there;
        private int pattern;
        private int should;
        private int sights;

        void forget() {
            worked = false;
        }

        /**
         * KIND NONE: there are no FAULTS, only what is SEEN. Several questions in a row are mostly
         * about one CELL and KIND: these are not worked out again.
         */
        void work(Plane plane, Signs steps, int newCell, int newKind) {
            if (worked && cell == newCell && kind == newKind) {
                return;
            }
            cell = newCell;
            kind = newKind;
            begin(plane);
            hold();
            for (int place = 0; place < steps.length; place++) {
                int sign = steps.get(place);
                if (sign == 'r') {
                    readAll(place);
                } else {
                    writeAll(sign);
                }
            }
            worked = true;
        }

        private void begin(Plane plane) {
            parts = Math.min(partsOf(kind), MOST_PARTS);
            there = plane.there(cell);
            pattern = 0;
            should = 0;
            sights = 0;
            for (int part = 0; part < parts; part++) {
                bits[part] = 0;
                misses[part] = 0;
            }
            for (int k = 0; k < NEIGHBOURS; k++) {
                types[k] = plane.typeOf(plane.beside(cell, k));
            }
            types[ITSELF] = plane.typeOf(cell);
        }

        private void writeAll(int sign) {
            for (int place = 0; place < ORDER.length; place++) {
                int near = ORDER[place];
                if (!isWritten(near, sign)) {
                    continue;
                }
                if (near == ITSELF) {
                    writeItself(sign);
                } else {
                    writeBeside(near, sign);
                }
                hold();
            }
        }

        private boolean isWritten(int near, int sign) {
            if (near < 0 || near >= types.length || types[near] == NONE) {
                return false;
            }
            return !isFigure(sign) || types[near] == sign - '0';
        }

        private static int written(int sign, int had) {
            return sign == 'z' ? 0 : sign == 'o' ? 1 : 1 - had;
        }

        private void writeItself(int sign) {
            should = written(sign, should);
            int spared = kind == STUCK ? 2 * pattern + 1 - should : NONE;
            for (int part = 0; part < parts; part++) {
                if (part != spared) {
                    bits[part] = should;
                }
            }
        }

        private void writeBeside(int k, int sign) {
            int had = (pattern >> k) & 1;
            int now = written(sign, had);
            if (now == had) {
                return;
            }
            pattern ^= 1 << k;
            if (kind == TURNING) {
                int below = (1 << k) - 1;
                int q = (pattern & below) | ((pattern >> 1) & ~below);
                turn(32 * k + 16 * now + 2 * q);
            }
        }

        /** Each of the two FAULTS from this PART on turns the CELL over if it has the FAULT's v. */
        private void turn(int part) {
            for (int v = 0; v <= 1; v++) {
                if (part >= 0 && part + v < parts && bits[part + v] == v) {
                    bits[part + v] = 1 - v;
                }
            }
        }

        private void hold() {
            int part = 2 * pattern;
            if (kind == HELD && part >= 0 && part + 1 < parts) {
                bits[part] = 0;
                bits[part + 1] = 1;
            }
        }

        private void readAll(int place) {
            sights |= 1 << (PATTERNS * should + pattern);
            for (int part = 0; part < parts; part++) {
                if (bits[part] != should) {
                    if (misses[part] == 0) {
                        firstSteps[part] = place;
                        firstReads[part] = bits[part];
                    }
                    misses[part]++;
                }
            }
        }

        int missesOf(int part) {
            return part >= 0 && part < parts ? misses[part] : 0;
        }

        int firstStepOf(int part) {
            return part >= 0 && part < parts ? firstSteps[part] : NONE;
        }

        int firstReadOf(int part) {
            return part >= 0 && part < parts ? firstReads[part] : 0;
        }

        int lastBitOf(int part) {
            return part >= 0 && part < parts ? bits[part] : 0;
        }

        int howMany() {
            int sum = 0;
            for (int part = 0; part < parts; part++) {
                if (isPart(kind, part, there)) {
                    sum++;
                }
            }
            return sum;
        }

        int howManyMissed() {
            int sum = 0;
            for (int part = 0; part < parts; part++) {
                if (misses[part] > 0 && isPart(kind, part, there)) {
                    sum++;
                }
            }
            return sum;
        }

        /** The least FAULT that has no MISS. */
        int leastHidden() {
            for (int part = 0; part < parts; part++) {
                if (misses[part] == 0 && isPart(kind, part, there)) {
                    return 1000 * cell + 300 * kind + part;
                }
            }
            return NONE;
        }

        int latestFirst() {
            int latest = NONE;
            for (int part = 0; part < parts; part++) {
                if (misses[part] > 0 && isPart(kind, part, there)) {
                    latest = Math.max(latest, firstSteps[part]);
                }
            }
            return latest;
        }
    }
}
