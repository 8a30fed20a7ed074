/** Counts answers that are not as due, and makes shelves out of texts. */
final class Check {
    private int wrong = 0;
    private int looked = 0;

    void due(String call, long want, long got) {
        looked++;
        if (got != want) {
            wrong++;
            System.out.println(call + " answered " + got + ", due is " + want);
        }
    }

    void end(String name) {
        System.out.println(name + ": " + looked + " answers, " + wrong + " wrong");
        if (wrong != 0) {
            System.exit(1);
        }
    }

    static GreenJars written(String text) {
        GreenJars x = new GreenJars();
        rewrite(x, text);
        return x;
    }

    static void rewrite(GreenJars x, String text) {
        x.wipe();
        for (int k = 0; k < text.length(); k++) {
            x.write(text.charAt(k));
        }
    }

    static GreenJars shelf(String text) {
        GreenJars x = written(text);
        if (x.sale() < 0) {
            throw new IllegalStateException("no sale: " + text);
        }
        return x;
    }

    static void weeks(GreenJars x, int n) {
        for (int k = 0; k < n; k++) {
            x.week();
        }
    }

    static void shakes(GreenJars x, int n) {
        for (int k = 0; k < n; k++) {
            x.shake();
        }
    }

    /** All that can be read of the shelf without changing it, to see that a call has changed nothing. */
    static String state(GreenJars x) {
        StringBuilder told = new StringBuilder();
        for (int what = 0; what <= 9; what++) {
            told.append(x.about(what)).append(' ');
        }
        for (int jar = 0; jar < x.about(0); jar++) {
            for (int what = 0; what <= 8; what++) {
                told.append(x.jar(jar, what)).append(' ');
            }
        }
        return told.toString();
    }

    void same(String call, String before, GreenJars x) {
        due(call + " changed the state", 1, before.equals(state(x)) ? 1 : 0);
    }
}
