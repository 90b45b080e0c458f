import java.util.LinkedHashMap;
import java.util.Map;
import java.util.function.Supplier;
import java.util.function.ToLongFunction;

/** All that an object in some state answers, call by call. */
final class Answers {
    /** The document promises 512 calls of one object; making it so takes up to some 140 of them. */
    private static final int CALLS_OF_ONE = 350;
    private static final int[] PARTS = {0, 1, 18, 19, 30, 31, 300, 301, 319, 330, 331, 600, 632, 633, 698, 715, 727};

    private final Supplier<DisturbedCells> make;
    private final Map<String, Long> answers = new LinkedHashMap<>();
    private DisturbedCells x;
    private int calls;

    private Answers(Supplier<DisturbedCells> make) {
        this.make = make;
        x = make.get();
    }

    static Map<String, Long> of(Supplier<DisturbedCells> make) {
        Answers a = new Answers(make);
        a.askTexts();
        for (int cell = -1; cell <= 25; cell++) a.askCell(cell);
        for (int what = 0; what <= 5; what++) a.askRun(DisturbedCells.NONE, what);
        for (int what = 0; what <= 10; what++) a.askCount(what);
        a.ask("digest()", DisturbedCells::digest);
        a.askWhatChanges();
        return a.answers;
    }

    private void ask(String call, ToLongFunction<DisturbedCells> question) {
        if (++calls > CALLS_OF_ONE) {
            calls = 1;
            x = make.get();
        }
        answers.put(call, question.applyAsLong(x));
    }

    private void askTexts() {
        ask("fault()", DisturbedCells::fault);
        for (int place = -1; place <= 64; place++) {
            int at = place;
            ask("step(" + at + ")", y -> y.step(at));
        }
    }

    private void askCell(int cell) {
        for (int what = 0; what <= 13; what++) {
            int one = what;
            ask("cell(" + cell + ", " + one + ")", y -> y.cell(cell, one));
        }
        ask("at(" + cell + ")", y -> y.at(cell));
        ask("seen(" + cell + ")", y -> y.seen(cell));
        for (int kind = 0; kind <= 2; kind++) {
            for (int what = 0; what <= 3; what++) askFound(cell, kind, what);
        }
        for (int part : PARTS) {
            for (int what = 0; what <= 5 && cell >= 0; what++) askRun(1000 * cell + part, what);
        }
    }

    private void askFound(int cell, int kind, int what) {
        ask("found(" + cell + ", " + kind + ", " + what + ")", y -> y.found(cell, kind, what));
    }

    private void askRun(int fault, int what) {
        ask("run(" + fault + ", " + what + ")", y -> y.run(fault, what));
    }

    private void askCount(int what) {
        ask("count(" + what + ")", y -> y.count(what));
    }

    /** Calls that change the object come last, each on an object of its own. */
    private void askWhatChanges() {
        answers.put("blank()", (long) make.get().blank());
        DisturbedCells read = make.get();
        answers.put("test()", (long) read.test());
        for (int place = 0; place <= 60; place++) answers.put("test(), step(" + place + ")", (long) read.step(place));
        DisturbedCells longer = make.get();
        answers.put("letter('z')", (long) longer.letter('z'));
        answers.put("letter('z'), digest()", longer.digest());
    }
}
