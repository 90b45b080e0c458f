import java.util.ArrayList;
import java.util.List;

/**
 * The document once more, in its most literal form: one FAULT at a time, the whole SHEET, every
 * CELL written and read by itself. It shares no code with the class it is compared to, but the same
 * session wrote both: a misreading of the document would stand in both.
 */
final class PlainCells {
    static final int NONE = -1, UNKNOWN = -1001, OUTSIDE = -1002, STATE = -1003, FULL = -1004;

    private String page = "";
    private String steps = "";
    private int rows = 4;
    private int columns = 4;
    private int factor = 1;
    private int shift = 0;
    private int turned = 0;

    // what the last simulation left
    private int[] bits;
    private int[] should;
    private List<int[]> misses;
    private int[] seenBy;

    int letter(int code) {
        if (code < 32 || code > 126) return OUTSIDE;
        if (page.length() + 1 > 60) return FULL;
        page += (char) code;
        return page.length();
    }

    int blank() {
        int had = page.length();
        page = "";
        return had;
    }

    int fault() {
        for (int i = 0; i < page.length(); i++) {
            if ("zor01234".indexOf(page.charAt(i)) < 0) return i;
        }
        return page.length();
    }

    int test() {
        if (!page.matches("[zor0-4]{1,60}")) return STATE;
        steps = page;
        page = "";
        return steps.length();
    }

    int gray() {
        StringBuilder text = new StringBuilder("zr");
        for (int k = 1; k <= 31; k++) {
            int twos = 0;
            for (int rest = k; rest % 2 == 0; rest /= 2) twos++;
            text.append(twos).append('r');
        }
        steps = text.toString();
        return steps.length();
    }

    int step(int place) {
        return place < 0 || place >= steps.length() ? UNKNOWN : steps.charAt(place);
    }

    int sheet(int newRows, int newColumns) {
        if (newRows < 3 || newRows > 5 || newColumns < 3 || newColumns > 5) return OUTSIDE;
        rows = newRows;
        columns = newColumns;
        factor = 1;
        shift = 0;
        turned = 0;
        return cells();
    }

    int scramble(int newFactor, int newShift, int newTurned) {
        int n = cells();
        if (newFactor < 1 || newFactor >= n) return OUTSIDE;
        for (int d = 2; d <= n; d++) {
            if (n % d == 0 && newFactor % d == 0) return OUTSIDE;
        }
        if (newShift < 0 || newShift >= n) return OUTSIDE;
        if (newTurned < 0 || newTurned > (1 << rows) - 1) return OUTSIDE;
        factor = newFactor;
        shift = newShift;
        turned = newTurned;
        int own = 0;
        for (int a = 0; a < n; a++) {
            if (at(a) == a) own++;
        }
        return own;
    }

    int cell(int cell, int what) {
        if (cell < 0 || cell >= cells()) return UNKNOWN;
        if (what == 0) return type(cell);
        if (what == 1) return address(cell);
        if (what == 2) return turnedAt(cell);
        if (what >= 10 && what <= 13) return neighbour(cell, what - 10);
        return OUTSIDE;
    }

    int at(int address) {
        return address < 0 || address >= cells() ? UNKNOWN : (factor * address + shift) % cells();
    }

    int run(int fault, int what) {
        if (fault != NONE && !faultsOf(fault / 1000).contains(fault)) return UNKNOWN;
        if (what < 0 || what > 5) return OUTSIDE;
        simulate(fault);
        int[] first = misses.isEmpty() ? null : misses.get(0);
        switch (what) {
            case 0: return first == null ? NONE : first[0];
            case 1: return first == null ? NONE : address(first[1]);
            case 2: return first == null ? NONE : turnedAt(first[1]) == 1 ? 1 - first[2] : first[2];
            case 3: return misses.size();
            case 4: return (int) misses.stream().map(m -> m[1]).distinct().count();
            default:
                int sum = 0;
                for (int c = 0; c < cells(); c++) sum += bits[c] << c;
                return sum;
        }
    }

    int found(int cell, int kind, int what) {
        if (cell < 0 || cell >= cells() || kind < 0 || kind > 2) return UNKNOWN;
        if (what < 0 || what > 3) return OUTSIDE;
        List<Integer> all = faultsOf(cell, kind);
        int found = 0;
        int least = NONE;
        int latest = NONE;
        for (int fault : all) {
            simulate(fault);
            if (misses.isEmpty()) {
                if (least == NONE || fault < least) least = fault;
            } else {
                found++;
                latest = Math.max(latest, misses.get(0)[0]);
            }
        }
        return what == 0 ? all.size() : what == 1 ? found : what == 2 ? least : latest;
    }

    int seen(int cell) {
        if (cell < 0 || cell >= cells()) return UNKNOWN;
        simulate(NONE);
        return seenBy[cell];
    }

    int count(int what) {
        switch (what) {
            case 0: return page.length();
            case 1: return rows;
            case 2: return columns;
            case 3: return factor;
            case 4: return shift;
            case 5: return turned;
            case 6: return steps.length();
            case 7: return ops();
            case 8: return ops() / common(ops(), bound());
            case 9: return bound() / common(ops(), bound());
            case 10: return seenWhole();
            default: return OUTSIDE;
        }
    }

    long digest() {
        List<Long> numbers = new ArrayList<>();
        for (int c = 0; c < cells(); c++) {
            for (int what : new int[] {0, 1, 2, 10, 11, 12, 13}) numbers.add((long) cell(c, what));
            numbers.add((long) seen(c));
            for (int kind = 0; kind <= 1; kind++) {
                for (int what = 0; what <= 3; what++) numbers.add((long) found(c, kind, what));
            }
        }
        for (int c : new int[] {0, columns + 1}) {
            for (int what = 0; what <= 3; what++) numbers.add((long) found(c, 2, what));
        }
        for (int a = 0; a < cells(); a++) numbers.add((long) at(a));
        for (int what = 0; what <= 5; what++) numbers.add((long) run(NONE, what));
        for (char letter : page.toCharArray()) numbers.add((long) letter);
        for (int what = 0; what <= 10; what++) numbers.add((long) count(what));
        long h = 1721;
        for (long number : numbers) h = 31 * h + number;
        return h;
    }

    int cells() {
        return rows * columns;
    }

    List<Integer> faultsOf(int cell) {
        List<Integer> all = new ArrayList<>();
        for (int kind = 0; kind <= 2 && cell >= 0 && cell < cells(); kind++) all.addAll(faultsOf(cell, kind));
        return all;
    }

    private List<Integer> faultsOf(int cell, int kind) {
        List<Integer> all = new ArrayList<>();
        if (kind < 2) {
            for (int p = 0; p < 16; p++) {
                for (int v = 0; v <= 1 && canBe(cell, NONE, bitsOf(p, 4)); v++) {
                    all.add(1000 * cell + 300 * kind + 2 * p + v);
                }
            }
            return all;
        }
        for (int k = 0; k < 4; k++) {
            for (int w = 0; w <= 1 && neighbour(cell, k) != NONE; w++) {
                for (int q = 0; q < 8; q++) {
                    for (int v = 0; v <= 1 && canBe(cell, k, bitsOf(q, 3)); v++) {
                        all.add(1000 * cell + 300 * kind + 32 * k + 16 * w + 2 * q + v);
                    }
                }
            }
        }
        return all;
    }

    private static int[] bitsOf(int number, int many) {
        int[] row = new int[many];
        for (int i = 0; i < many; i++) row[i] = number / (1 << i) % 2;
        return row;
    }

    /** Whether all NEIGHBOURS but the one left out can have these BITS, in order. */
    private boolean canBe(int cell, int leftOut, int[] wanted) {
        int i = 0;
        for (int k = 0; k < 4; k++) {
            if (k == leftOut) continue;
            if (wanted[i] == 1 && neighbour(cell, k) == NONE) return false;
            i++;
        }
        return true;
    }

    private boolean are(int cell, int leftOut, int[] wanted) {
        int i = 0;
        for (int k = 0; k < 4; k++) {
            if (k == leftOut) continue;
            int there = neighbour(cell, k);
            if ((there == NONE ? 0 : bits[there]) != wanted[i]) return false;
            i++;
        }
        return true;
    }

    private void simulate(int fault) {
        int n = cells();
        bits = new int[n];
        should = new int[n];
        misses = new ArrayList<>();
        seenBy = new int[n];
        hold(fault);
        for (int s = 0; s < steps.length(); s++) {
            char sign = steps.charAt(s);
            for (int c = 0; c < n; c++) {
                if (sign == 'z') write(c, 0, fault);
                else if (sign == 'o') write(c, 1, fault);
                else if (sign == 'r') read(s, c);
                else if (type(c) == sign - '0') write(c, 1 - should[c], fault);
            }
        }
    }

    private void read(int step, int c) {
        if (bits[c] != should[c]) misses.add(new int[] {step, c, bits[c]});
        int pattern = 0;
        for (int k = 0; k < 4; k++) {
            if (neighbour(c, k) != NONE && bits[neighbour(c, k)] == 1) pattern += 1 << k;
        }
        seenBy[c] |= 1 << (16 * bits[c] + pattern);
    }

    private void write(int c, int value, int fault) {
        should[c] = value;
        int old = bits[c];
        if (!stuck(c, value, fault)) bits[c] = value;
        turn(c, old, fault);
        hold(fault);
    }

    private boolean stuck(int c, int value, int fault) {
        if (fault == NONE || fault % 1000 / 300 != 1 || fault / 1000 != c) return false;
        int part = fault % 1000 - 300;
        return are(c, NONE, bitsOf(part / 2, 4)) && bits[c] == part % 2 && value != part % 2;
    }

    private void turn(int written, int old, int fault) {
        if (fault == NONE || fault % 1000 / 300 != 2) return;
        int c = fault / 1000;
        int part = fault % 1000 - 600;
        int k = part / 32;
        int w = part / 16 % 2;
        if (neighbour(c, k) != written || old == w || bits[written] != w) return;
        if (are(c, k, bitsOf(part / 2 % 8, 3)) && bits[c] == part % 2) bits[c] = 1 - bits[c];
    }

    private void hold(int fault) {
        if (fault == NONE || fault % 1000 / 300 != 0) return;
        int part = fault % 1000;
        if (are(fault / 1000, NONE, bitsOf(part / 2, 4))) bits[fault / 1000] = part % 2;
    }

    private int type(int cell) {
        return (cell / columns + 2 * (cell % columns)) % 5;
    }

    private int address(int cell) {
        for (int a = 0; a < cells(); a++) {
            if (at(a) == cell) return a;
        }
        throw new IllegalStateException("no ADDRESS of CELL " + cell);
    }

    private int turnedAt(int cell) {
        return turned / (1 << cell / columns) % 2;
    }

    private int neighbour(int cell, int k) {
        int row = cell / columns + (k == 0 ? -1 : k == 2 ? 1 : 0);
        int column = cell % columns + (k == 1 ? 1 : k == 3 ? -1 : 0);
        return row < 0 || row >= rows || column < 0 || column >= columns ? NONE : row * columns + column;
    }

    private int ops() {
        int sum = 0;
        for (char sign : steps.toCharArray()) {
            for (int c = 0; c < cells(); c++) {
                if ("zor".indexOf(sign) >= 0 || type(c) == sign - '0') sum++;
            }
        }
        return sum;
    }

    private int bound() {
        return 33 * cells() + 31 * (cells() / 5);
    }

    private static int common(int a, int b) {
        if (a == 0) return b;
        for (int d = Math.min(a, b); d > 1; d--) {
            if (a % d == 0 && b % d == 0) return d;
        }
        return 1;
    }

    private int seenWhole() {
        simulate(NONE);
        int whole = 0;
        for (int c = 0; c < cells(); c++) {
            boolean all = true;
            for (int p = 0; p < 16; p++) {
                if (!canBe(c, NONE, bitsOf(p, 4))) continue;
                all &= (seenBy[c] >> p & 1) == 1 && (seenBy[c] >> 16 + p & 1) == 1;
            }
            if (all) whole++;
        }
        return whole;
    }
}
