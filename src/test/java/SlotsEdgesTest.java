/** Promises 29 and 30 at their edges, sentence by sentence: what is kept, and gone on from. */
public final class SlotsEdgesTest {
    private static final Sentences S = new Sentences();
    private static final int UNKNOWN = -1, LATE = -3, NONE = -9;
    private static final int[] NO_SLOT = {-1, 2, NONE, Integer.MIN_VALUE, Integer.MAX_VALUE};

    public static void main(String[] args) {
        keep();
        keepRefused();
        againAll();
        againActs();
        againRefused();
        S.end("SlotsEdgesTest", 29, 30);
    }

    private static void keep() {
        S.of(29, "they are kept: THE WEEK, in SLOTS 0 .. 1");
        for (int slot = 0; slot <= 1; slot++) {
            GreenJars x = Check.shelf("SJ05009");
            S.due("week 0 in " + slot, 0, x.keep(slot));
            Check.weeks(x, 3);
            S.due("week 3 in " + slot, 3, x.keep(slot));
            S.due("again " + slot, 3, x.again(slot));
            S.due("the other slot is not kept", LATE, x.again(1 - slot));
        }
        S.of(29, "an empty shelf can be kept");
        GreenJars empty = new GreenJars();
        S.due("keep", 0, empty.keep(1));
        Check.weeks(empty, 2);
        S.due("again", 0, empty.again(1));
        S.due("the week", 0, empty.about(1));
        S.of(29, "keep is no ACT, and forgets none");
        GreenJars half = Shelves.half();
        half.keep(0);
        S.due("acts", 4, half.about(7));
        S.same("acts", Shelves.lookAtActs(Shelves.half()), Shelves.lookAtActs(half));
        S.of(29, "what was kept there is kept no more");
        GreenJars over = Check.shelf("SJ05009");
        over.keep(0);
        over.week();
        over.keep(0);
        over.week();
        S.due("again", 1, over.again(0));
        S.due("its flavour", 6, over.jar(0, 1));
        S.of(29, "what is kept does not go on with the shelf");
        GreenJars x = Check.shelf("SJ05009");
        x.keep(0);
        Check.weeks(x, 20);
        x.pour(0, 3);
        x.set(0, 7);
        x.shake();
        x.open(0);
        S.due("again", 0, x.again(0));
        int[] told = {0, 5, 0, 0, 9, 0, 1, 0};
        for (int what = 0; what <= 7; what++) {
            S.due("jar, " + what, told[what], x.jar(0, what));
        }
    }

    private static void keepRefused() {
        S.of(29, "UNKNOWN");
        for (int slot : NO_SLOT) {
            S.keepsAll("keep " + slot, UNKNOWN, x -> x.keep(slot));
        }
        S.of(29, "keep changes nothing else");
        GreenJars x = Shelves.half();
        x.keep(0);
        S.same("all", Shelves.lookAtAll(Shelves.half()), Shelves.lookAtAll(x));
        S.due("the other slot", 2, x.again(1));
        S.due("its place, as it was kept there", 0, x.jar(1, 0));
    }

    /** Kept with one cracked, one open, one turned, one poured, one set elsewhere, hazes of 0, 1 and 2. */
    private static GreenJars kept(int slot) {
        GreenJars x = Check.shelf("SJ05001J15109J27219J33329J46039J54309");
        Check.weeks(x, 4);
        x.shake();
        x.open(1);
        x.pour(2, 3);
        x.set(5, 7);
        Check.weeks(x, 3);
        x.keep(slot);
        return x;
    }

    private static GreenJars goneOn(int slot) {
        GreenJars x = kept(slot);
        x.undo();
        Check.weeks(x, 7);
        x.shake();
        x.pour(5, 0);
        x.pour(3, 1);
        x.set(3, 5);
        x.set(5, 1);
        x.open(2);
        S.due("again " + slot, 7, x.again(slot));
        return x;
    }

    private static void againAll() {
        S.of(30, "they are as they were kept: PLACES, FLAVOURS, STUFFS, HAZES, LOOKS, what is CRACKED, OPEN");
        int[][] told = {
            {0, 9, 0, 0, 1, 2, 1, 1}, {1, 1, 1, 0, 9, 2, 2, 2}, {2, 5, 3, 1, 9, 1, 1, 0},
            {3, 3, 3, 2, 9, 0, 2, 0}, {4, 9, 0, 3, 9, 3, 1, 0}, {7, 4, 3, 0, 9, 3, 2, 0}
        };
        for (int slot = 0; slot <= 1; slot++) {
            GreenJars x = goneOn(slot);
            S.due("places", 0b10011101, x.about(5));
            for (int jar = 0; jar < 6; jar++) {
                for (int what = 0; what <= 7; what++) {
                    S.due("jar " + jar + ", " + what, told[jar][what], x.jar(jar, what));
                }
            }
        }
        S.of(30, "THE WEEK");
        S.due("the week by slot 0", 7, goneOn(0).about(1));
        S.due("the week by slot 1", 7, goneOn(1).about(1));
        S.of(30, "odd and even go by THE WEEK that was kept");
        GreenJars y = Check.shelf("SJ02039");
        y.week();
        y.keep(0);
        y.week();
        S.due("again", 1, y.again(0));
        S.due("week 1", 3, y.week());
        S.due("its haze", 1, y.jar(0, 5));
        S.due("week 2", 4, y.week());
        S.of(30, "one can go on from it more than once, and from each SLOT in turn");
        GreenJars full = Shelves.full();
        int[] weeks = {6, 8};
        for (int k = 0; k < 4; k++) {
            S.due("again " + k % 2, weeks[k % 2], full.again(k % 2));
            full.week();
            full.shake();
        }
        S.same("slots", Shelves.lookAtSlots(Shelves.full()), Shelves.lookAtSlots(full));
    }

    private static void againActs() {
        S.of(30, "no ACTS when one goes on");
        GreenJars x = Shelves.full();
        S.due("acts ahead", 14, x.about(7));
        x.again(1);
        S.due("acts", 0, x.about(7));
        S.due("undo", LATE, x.undo());
        for (int k = 1; k <= 15; k++) {
            x.shake();
            S.due("acts", Math.min(k, 14), x.about(7));
        }
        for (int left = 13; left >= 0; left--) {
            S.due("undo", left, x.undo());
        }
        S.due("undo", LATE, x.undo());
        S.of(30, "undo does not undo what was kept");
        GreenJars y = Check.shelf("SJ05009");
        y.week();
        y.keep(0);
        y.undo();
        S.due("the week", 0, y.about(1));
        S.due("again", 1, y.again(0));
        S.of(30, "THE TEXT, TASTED and THE SEED are not kept: they stay");
        GreenJars z = Shelves.half();
        z.write('J');
        z.taste(1, 1);
        z.seed(12);
        z.again(1);
        S.due("bytes", 20, z.about(9));
        S.due("tasted", 3, z.about(8));
        S.due("seed", 12, z.seed(0));
        S.of(30, "what is kept stays, when THE TEXT is wiped, or a sale is refused");
        GreenJars w = Shelves.full();
        w.sale();
        w.wipe();
        w.sale();
        w.untaste();
        S.due("again 0", 6, w.again(0));
        S.due("again 1", 8, w.again(1));
    }

    private static GreenJars goneBySale() {
        GreenJars x = Shelves.full();
        Check.rewrite(x, "SJ05309");
        x.sale();
        x.week();
        return x;
    }

    private static GreenJars oneKept(int slot) {
        GreenJars x = Check.shelf("SJ05309");
        x.week();
        x.keep(slot);
        x.week();
        return x;
    }

    private static void againRefused() {
        S.of(30, "UNKNOWN");
        for (int slot : NO_SLOT) {
            S.keepsAll("again " + slot, UNKNOWN, x -> x.again(slot));
        }
        S.of(30, "LATE: none were kept");
        S.keeps("again 0", LATE, GreenJars::new, x -> x.again(0));
        S.keeps("again 1", LATE, GreenJars::new, x -> x.again(1));
        S.keeps("again 0 of a half one", LATE, Shelves::half, x -> x.again(0));
        S.keeps("again 1, where 0 is kept", LATE, () -> oneKept(0), x -> x.again(1));
        S.keeps("again 0, where 1 is kept", LATE, () -> oneKept(1), x -> x.again(0));
        S.keeps("again 0, gone by a sale", LATE, SlotsEdgesTest::goneBySale, x -> x.again(0));
        S.keeps("again 1, gone by a sale", LATE, SlotsEdgesTest::goneBySale, x -> x.again(1));
    }
}
