/** Promises 22 to 24 at their edges, sentence by sentence: what is tasted, and what it was kept in. */
public final class TastedEdgesTest {
    private static final Sentences S = new Sentences();
    private static final int BAD = -2, FULL = -4, NONE = -9;
    private static final int[] NO_FIGURE = {-1, 10, NONE, Integer.MIN_VALUE, Integer.MAX_VALUE};

    public static void main(String[] args) {
        taste();
        untaste();
        keptOfOne();
        keptOfMany();
        keptRefused();
        S.end("TastedEdgesTest", 22, 24);
    }

    private static GreenJars tasted(int... pairs) {
        GreenJars x = new GreenJars();
        for (int k = 0; k + 1 < pairs.length; k += 2) {
            x.taste(pairs[k], pairs[k + 1]);
        }
        return x;
    }

    private static void taste() {
        S.of(22, "how many there are: 6 such at most, none at first");
        GreenJars x = new GreenJars();
        S.due("at first", 0, x.about(8));
        int[][] pairs = {{0, 0}, {9, 9}, {0, 9}, {9, 0}, {5, 5}, {0, 0}};
        for (int k = 0; k < pairs.length; k++) {
            S.due("taste no " + (k + 1), k + 1, x.taste(pairs[k][0], pairs[k][1]));
            S.due("tasted", k + 1, x.about(8));
        }
        S.of(22, "FULL: 6");
        S.due("taste no 7", FULL, x.taste(0, 0));
        S.keeps("taste no 7", FULL, Shelves::full, y -> y.taste(0, 0));
        S.keeps("taste no 7, the greatest", FULL, Shelves::full, y -> y.taste(9, 9));
        S.of(22, "BAD: f, v");
        for (int figure : NO_FIGURE) {
            S.keepsAll("f " + figure, BAD, y -> y.taste(figure, 0));
            S.keepsAll("v " + figure, BAD, y -> y.taste(9, figure));
        }
        S.of(22, "BAD is told ahead of FULL");
        S.keeps("f 10 behind 6", BAD, Shelves::full, y -> y.taste(10, 0));
        S.keeps("v -1 behind 6", BAD, Shelves::full, y -> y.taste(0, -1));
        S.of(22, "what can never be is TASTED too");
        S.due("two that do not go together", 2, tasted(0, 9, 0, 0).about(8));
        S.of(22, "it is no ACT, and needs no JARS");
        GreenJars z = Shelves.half();
        z.taste(1, 1);
        S.due("acts", 4, z.about(7));
        S.same("acts", Shelves.lookAtActs(Shelves.half()), Shelves.lookAtActs(z));
    }

    private static void untaste() {
        S.of(23, "nothing is TASTED: how much there was");
        GreenJars x = new GreenJars();
        S.due("of nothing", 0, x.untaste());
        for (int count = 1; count <= 6; count++) {
            for (int k = 0; k < count; k++) {
                x.taste(9, 0);
            }
            S.due("of " + count, count, x.untaste());
            S.due("tasted", 0, x.about(8));
            S.due("kept", 40, x.kept(0));
            S.due("the first", 0, x.kept(1));
        }
        S.of(23, "what was full is not any more");
        GreenJars full = Shelves.full();
        S.due("of six", 6, full.untaste());
        S.due("once more", 0, full.untaste());
        for (int k = 1; k <= 6; k++) {
            S.due("taste no " + k, k, full.taste(0, 9));
        }
        S.due("by what is tasted anew alone", 9, full.kept(1));
        S.of(23, "it changes nothing else");
        GreenJars half = Shelves.half();
        half.untaste();
        half.taste(3, 4);
        half.taste(9, 9);
        S.same("all", Shelves.lookAtAll(Shelves.half()), Shelves.lookAtAll(half));
    }

    /** How many of 0 .. 9 weeks make v out of f, stuff by stuff. */
    private static int weeksInSyrup(int f, int v) {
        return v < f ? 0 : v < 9 ? 1 : f + 1;
    }

    private static int weeksInBrandy(int f, int v) {
        if (v == 5) {
            return 10 - Math.abs(5 - f);
        }
        boolean between = f < 5 ? v >= f && v < 5 : v <= f && v > 5;
        return between ? 1 : 0;
    }

    private static void keptOfOne() {
        S.of(24, "STUFFS and WEEKS (0 .. 9) by which it is so: how many; the first one (10 times STUFF and WEEKS)");
        for (int f = 0; f <= 9; f++) {
            for (int v = 0; v <= 9; v++) {
                // Vinegar is syrup the other way round.
                int count = weeksInSyrup(f, v) + weeksInSyrup(9 - f, 9 - v) + weeksInBrandy(f, v) + (f == v ? 10 : 0);
                GreenJars x = tasted(f, v);
                S.due("kept of " + f + " to " + v, count, x.kept(0));
                S.due("the first of " + f + " to " + v, v >= f ? v - f : 10 + f - v, x.kept(1));
            }
        }
    }

    private static void keptIs(int count, int first, int... pairs) {
        GreenJars x = tasted(pairs);
        S.due("kept of " + java.util.Arrays.toString(pairs), count, x.kept(0));
        S.due("the first of " + java.util.Arrays.toString(pairs), first, x.kept(1));
    }

    private static void keptOfMany() {
        S.of(24, "40 there are, when nothing is TASTED");
        keptIs(40, 0);
        S.of(24, "alike for all that is TASTED");
        keptIs(1, 2, 4, 6, 8, 9);
        keptIs(1, 12, 6, 4, 1, 0);
        keptIs(1, 21, 4, 5, 8, 7);
        keptIs(10 + 3, 0, 3, 3, 7, 7);
        keptIs(5, 25, 0, 5, 9, 5);
        S.of(24, "the greatest number of WEEKS, 9, of each STUFF");
        keptIs(1, 9, 0, 9);
        keptIs(1, 19, 9, 0);
        keptIs(1 + 5, 5, 0, 5);
        keptIs(1 + 1 + 1 + 10, 0, 1, 1);
        S.of(24, "the first one in BRANDY, when SYRUP and VINEGAR can not be");
        keptIs(6, 24, 9, 5, 5, 5);
        keptIs(9, 21, 5, 5, 4, 5);
        S.of(24, "how many is 0, the first one NONE, when there are none");
        keptIs(0, NONE, 5, 5, 3, 9);
        keptIs(0, NONE, 0, 9, 9, 0);
        keptIs(0, NONE, 0, 1, 0, 2);
        S.of(24, "all six count, the last one too");
        keptIs(22, 0, 9, 9, 9, 9, 9, 9, 9, 9, 9, 9);
        keptIs(1, 9, 9, 9, 9, 9, 9, 9, 9, 9, 9, 9, 0, 9);
        keptIs(0, NONE, 9, 9, 9, 9, 9, 9, 9, 9, 9, 9, 1, 0);
        keptIs(1, 9, 0, 9, 9, 9, 9, 9, 9, 9, 9, 9, 9, 9);
        S.of(24, "what was refused does not count");
        GreenJars x = tasted(9, 9, 9, 9, 9, 9, 9, 9, 9, 9, 9, 9);
        x.taste(0, 9);
        S.due("a seventh", 22, x.kept(0));
        GreenJars y = tasted(9, 9);
        y.taste(0, 10);
        y.taste(-1, 0);
        S.due("bad ones", 22, y.kept(0));
        S.of(24, "a PLAIN one's, whatever WEEK it is on the shelf");
        GreenJars odd = Check.shelf("SJ05339");
        odd.week();
        odd.taste(4, 6);
        S.due("kept", 1, odd.kept(0));
        S.due("the first", 2, odd.kept(1));
    }

    private static void keptRefused() {
        S.of(24, "BAD");
        for (int what : new int[] {-1, 2, Integer.MIN_VALUE, Integer.MAX_VALUE}) {
            S.keepsAll("what " + what, BAD, x -> x.kept(what));
        }
        S.of(24, "kept changes nothing");
        S.keeps("kept 0", 40, GreenJars::new, x -> x.kept(0));
        S.keeps("kept 1", 1, Shelves::half, x -> x.kept(1));
        S.keeps("kept 0", 8, Shelves::full, x -> x.kept(0));
    }
}
