/** Promises 22 to 24: tasted. */
public final class TastedTest {
    private static final Check CHECK = new Check();

    public static void main(String[] args) {
        taste();
        untaste();
        kept();
        CHECK.end("TastedTest");
    }

    private static void due(String call, long want, long got) {
        CHECK.due(call, want, got);
    }

    private static void taste() {
        GreenJars x = new GreenJars();
        due("f -1", GreenJars.BAD, x.taste(-1, 0));
        due("f 10", GreenJars.BAD, x.taste(10, 0));
        due("v -1", GreenJars.BAD, x.taste(0, -1));
        due("v 10", GreenJars.BAD, x.taste(0, 10));
        due("none", 0, x.about(8));
        for (int k = 1; k <= 6; k++) {
            due("taste " + k, k, x.taste(9, 0));
        }
        due("a seventh", GreenJars.FULL, x.taste(9, 0));
        due("BAD ahead of FULL", GreenJars.BAD, x.taste(10, 0));
        due("six", 6, x.about(8));
        due("what was refused counts for nothing", 1, x.kept(0));
    }

    private static void untaste() {
        GreenJars x = new GreenJars();
        due("nothing", 0, x.untaste());
        x.taste(1, 2);
        x.taste(2, 2);
        due("two", 2, x.untaste());
        due("nothing any more", 0, x.about(8));
        due("all ways again", 40, x.kept(0));
        due("one anew", 1, x.taste(9, 0));
        due("by that alone", 19, x.kept(1));
    }

    private static void kept() {
        keptOf(40, 0);
        keptOf(22, 0, 5, 5);
        keptOf(13, 0, 3, 3);
        keptOf(1, 9, 0, 9);
        keptOf(1, 19, 9, 0);
        keptOf(1, 2, 4, 6, 8, 9);
        keptOf(5, 25, 0, 5, 9, 5);
        keptOf(9, 1, 9, 9, 8, 9);
        keptOf(8, 2, 9, 9, 7, 9);
        keptOf(0, GreenJars.NONE, 5, 5, 3, 9);
        keptOf(0, GreenJars.NONE, 0, 9, 9, 0);
        keptOf(2, 1, 3, 4);
        keptOf(8, 12, 0, 0, 1, 0, 2, 0);
        keptOf(0, GreenJars.NONE, 0, 0, 1, 0, 9, 9);
        GreenJars x = new GreenJars();
        due("what -1", GreenJars.BAD, x.kept(-1));
        due("what 2", GreenJars.BAD, x.kept(2));
    }

    private static void keptOf(int count, int first, int... tasted) {
        GreenJars x = new GreenJars();
        StringBuilder told = new StringBuilder("kept of");
        for (int k = 0; k + 1 < tasted.length; k += 2) {
            x.taste(tasted[k], tasted[k + 1]);
            told.append(' ').append(tasted[k]).append('>').append(tasted[k + 1]);
        }
        due(told + ", how many", count, x.kept(0));
        due(told + ", the first", first, x.kept(1));
    }
}
