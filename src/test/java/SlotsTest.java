/** Promises 29 and 30: slots. */
public final class SlotsTest {
    private static final Check CHECK = new Check();

    public static void main(String[] args) {
        refused();
        keptAndGoneOnFrom();
        untouched();
        CHECK.end("SlotsTest");
    }

    private static void due(String call, long want, long got) {
        CHECK.due(call, want, got);
    }

    private static void refused() {
        GreenJars x = Check.shelf("SJ05309");
        x.week();
        String before = Check.state(x);
        due("keep -1", GreenJars.UNKNOWN, x.keep(-1));
        due("keep 2", GreenJars.UNKNOWN, x.keep(2));
        due("again -1", GreenJars.UNKNOWN, x.again(-1));
        due("again 2", GreenJars.UNKNOWN, x.again(2));
        due("again 0", GreenJars.LATE, x.again(0));
        due("again 1", GreenJars.LATE, x.again(1));
        due("keep 0", 1, x.keep(0));
        due("again 1 still", GreenJars.LATE, x.again(1));
        CHECK.same("refusals, and keep", before, x);
    }

    private static void keptAndGoneOnFrom() {
        // Kept with all there is to keep: one cracked, one open, one turned, one poured, one set elsewhere.
        GreenJars x = Check.shelf("SJ05001J15009J25119J35209J45309");
        due("an empty week is kept", 0, x.keep(0));
        String first = Check.state(x);
        Check.weeks(x, 4);
        x.shake();
        x.open(1);
        x.pour(3, 1);
        x.set(4, 7);
        due("keep", 4, x.keep(1));
        x.again(1);
        String second = Check.state(x);
        due("cracked", 1, x.about(3));
        due("open", 2, x.about(4));
        Check.weeks(x, 2);
        x.shake();
        x.set(4, 1);
        x.pour(3, 0);
        x.open(2);
        due("again", 4, x.again(1));
        CHECK.same("again 1", second, x);
        due("no acts", 0, x.about(7));
        due("undo", GreenJars.LATE, x.undo());
        due("the other slot", 0, x.again(0));
        CHECK.same("again 0", first, x);
        due("back once more", 4, x.again(1));
        CHECK.same("again 1 once more", second, x);
        x.week();
        due("kept over", 5, x.keep(1));
        x.week();
        due("what was kept last", 5, x.again(1));
        due("keep is no act", 0, x.about(7));
    }

    private static void untouched() {
        GreenJars x = Check.shelf("SJ05309");
        x.keep(0);
        x.seed(8);
        x.taste(3, 4);
        x.write('Z');
        x.again(0);
        due("the seed", 8, x.seed(0));
        due("tasted", 1, x.about(8));
        due("the text", 8, x.about(9));
        x.week();
        x.keep(1);
        x.undo();
        due("undo leaves slots", 1, x.again(1));
        Check.rewrite(x, "S");
        x.sale();
        due("a sale empties slot 0", GreenJars.LATE, x.again(0));
        due("a sale empties slot 1", GreenJars.LATE, x.again(1));
    }
}
