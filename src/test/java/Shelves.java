import java.util.List;
import java.util.function.Function;

/** Shelves to begin from, and looks into all that one holds, each within the 512 calls of an object. */
final class Shelves {
    /** What the looks do to the shelf does not matter: each is taken of an object of its own. */
    static final List<Function<GreenJars, String>> PROBES =
        List.of(Shelves::lookAtAll, Shelves::lookAtActs, Shelves::lookAtSlots, Shelves::lookAtText);

    private Shelves() {
    }

    /** Amid its doings: a right text, all jars whole, four acts, one slot kept, two tasted. */
    static GreenJars half() {
        GreenJars x = Check.shelf("SJ75002J04115J26213");
        Check.weeks(x, 2);
        x.shake();
        x.keep(1);
        x.set(1, 1);
        x.taste(3, 4);
        x.taste(9, 9);
        x.seed(-5);
        return x;
    }

    /**
     * All that can be full is full: 48 bytes, six jars, 14 acts and two forgotten, both slots, six tasted.
     * Jar 0 is cracked at place 0, jar 1 was opened at place 1, jars 2 to 5 are whole at 2, 3, 4 and 6.
     */
    static GreenJars full() {
        GreenJars x = Check.shelf("SJ05001J15109J27219J33329J46039J54309");
        for (int k = 0; k < 11; k++) {
            x.write('Z');
        }
        Check.weeks(x, 4);
        x.shake();
        x.open(1);
        x.pour(2, 3);
        x.set(5, 7);
        Check.weeks(x, 2);
        x.shake();
        x.keep(0);
        x.week();
        x.shake();
        x.week();
        x.keep(1);
        x.shake();
        x.set(5, 6);
        int[] went = {5, 4, 3, 6, 5, 5};
        for (int f : went) {
            x.taste(f, 5);
        }
        x.seed(77);
        return x;
    }

    /** Jar 0 is cracked at place 0, jar 1 was opened at place 1, jar 2 is whole at place 2; the week is 4. */
    static GreenJars broken() {
        GreenJars x = Check.shelf("SJ03001J14009J25009");
        Check.weeks(x, 4);
        x.shake();
        x.open(1);
        return x;
    }

    /** Jars that are cracked or open alone. */
    static GreenJars noneWhole() {
        GreenJars x = broken();
        x.open(2);
        return x;
    }

    /** Plain ones look left, turners right; who is no seer has a haze of 1; the week is 2. */
    static GreenJars turned(String text) {
        GreenJars x = Check.shelf(text);
        Check.shakes(x, 3);
        Check.weeks(x, 2);
        return x;
    }

    static String lookAtAll(GreenJars x) {
        StringBuilder told = new StringBuilder(Check.state(x));
        told.append(x.kept(0)).append(' ').append(x.kept(1)).append(' ');
        return told.append(x.seed(0)).toString();
    }

    static String lookAtActs(GreenJars x) {
        StringBuilder told = new StringBuilder();
        int jars = x.about(0);
        for (int left = x.about(7); left >= 0; left = x.undo()) {
            told.append(left).append(": ").append(x.about(1)).append(' ').append(x.about(2)).append(' ').append(x.about(5));
            for (int jar = 0; jar < jars; jar++) {
                told.append(' ').append(x.jar(jar, 1)).append(x.jar(jar, 2)).append(x.jar(jar, 5)).append(x.jar(jar, 6));
            }
            told.append("; ");
        }
        return told.toString();
    }

    static String lookAtSlots(GreenJars x) {
        StringBuilder told = new StringBuilder();
        for (int slot = 0; slot <= 1; slot++) {
            told.append(x.again(slot)).append(": ").append(Check.state(x));
        }
        return told.toString();
    }

    /** A sale tells every byte of a right text; of a wrong one no more is ever told than its fault. */
    static String lookAtText(GreenJars x) {
        return x.fault() + " " + x.sale() + ": " + Check.state(x);
    }
}
