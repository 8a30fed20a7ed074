import java.util.function.Function;
import java.util.function.Supplier;
import java.util.function.ToLongFunction;

/**
 * Tests by the document's sentences: each names its promise, a wrong answer is told with its sentence,
 * and a sentence without an answer is wrong itself.
 */
final class Sentences {
    private static final int PROMISES = 30;

    private final boolean[] named = new boolean[PROMISES + 1];
    private String sentence = "";
    private int sentences = 0;
    private int answersOfThis = 1;
    private int answers = 0;
    private int wrong = 0;

    void of(int promise, String words) {
        endSentence();
        named[promise] = true;
        sentence = "promise " + promise + ", '" + words + "'";
        sentences++;
        answersOfThis = 0;
    }

    private void endSentence() {
        if (answersOfThis == 0) {
            tell("nothing was asked");
        }
    }

    private void tell(String what) {
        wrong++;
        System.out.println(sentence + ": " + what);
    }

    void due(String call, long want, long got) {
        answersOfThis++;
        answers++;
        if (got != want) {
            tell(call + " answered " + got + ", due is " + want);
        }
    }

    void same(String call, String want, String got) {
        answersOfThis++;
        answers++;
        if (!want.equals(got)) {
            tell(call + " left " + got + ", due is " + want);
        }
    }

    /** The call's answer is due, and the call changes nothing: a twin that was not called goes on alike. */
    void keeps(String call, long want, Supplier<GreenJars> make, ToLongFunction<GreenJars> run) {
        for (Function<GreenJars, String> probe : Shelves.PROBES) {
            GreenJars x = make.get();
            due(call, want, run.applyAsLong(x));
            same(call, probe.apply(make.get()), probe.apply(x));
        }
    }

    /** As keeps, on a new object, on one that is amid its doings, and on one where all that can be full is full. */
    void keepsAll(String call, long want, ToLongFunction<GreenJars> run) {
        keeps(call + " on an empty shelf", want, GreenJars::new, run);
        keeps(call + " on half a shelf", want, Shelves::half, run);
        keeps(call + " on a full shelf", want, Shelves::full, run);
    }

    void end(String name, int first, int last) {
        endSentence();
        for (int promise = first; promise <= last; promise++) {
            if (!named[promise]) {
                sentence = "promise " + promise;
                tell("has no sentence here");
            }
        }
        System.out.println(name + ": " + sentences + " sentences, " + answers + " answers, " + wrong + " wrong");
        if (wrong != 0) {
            System.exit(1);
        }
    }
}
