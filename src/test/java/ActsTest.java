/** Promises 9 to 14: acts. */
public final class ActsTest {
    private static final Check CHECK = new Check();

    public static void main(String[] args) {
        week();
        shake();
        set();
        pour();
        open();
        undo();
        CHECK.end("ActsTest");
    }

    private static void due(String call, long want, long got) {
        CHECK.due(call, want, got);
    }

    private static void week() {
        due("a week of nobody", 0, new GreenJars().week());
        // Syrup near its most, vinegar near its least, brandy from both sides, brine.
        GreenJars x = Check.shelf("SJ08009J11109J23209J37209J45209J56309");
        due("week 0", 9 + 0 + 4 + 6 + 5 + 6, x.week());
        due("week 1", 9 + 0 + 5 + 5 + 5 + 6, x.week());
        due("week 2", 9 + 0 + 5 + 5 + 5 + 6, x.week());
        due("the week", 3, x.about(1));
        kinds();
        // What is not whole is not counted and does not change.
        GreenJars y = Check.shelf("SJ00009J10001J20009");
        Check.weeks(y, 4);
        y.shake();
        y.open(2);
        due("only the whole one", 5, y.week());
        due("the cracked one stays as it was", 4, y.jar(1, 1));
        due("the open one stays as it was", 4, y.jar(2, 1));
        due("its haze too", 2, y.jar(2, 5));
        haze();
    }

    private static void kinds() {
        // Plain, turner, seer, colonel, all of flavour 2 in syrup.
        GreenJars x = Check.shelf("SJ02009J12019J22029J32039");
        int[][] flavours = {{3, 3, 3, 3}, {4, 4, 4, 3}, {5, 5, 5, 4}, {6, 6, 6, 4}, {7, 7, 7, 5}};
        int[][] hazes = {{0, 0, 0, 0}, {1, 1, 0, 1}, {1, 1, 0, 1}, {2, 2, 0, 2}, {2, 2, 0, 2}};
        int[] turner = {2, 3, 0, 1, 2};
        for (int week = 0; week < 5; week++) {
            x.week();
            for (int jar = 0; jar < 4; jar++) {
                due("flavour of " + jar + " behind week " + week, flavours[week][jar], x.jar(jar, 1));
                due("haze of " + jar + " behind week " + week, hazes[week][jar], x.jar(jar, 5));
                due("look of " + jar + " behind week " + week, jar == 1 ? turner[week] : 1, x.jar(jar, 6));
            }
        }
    }

    private static void haze() {
        GreenJars x = Check.shelf("SJ00009");
        Check.weeks(x, 17);
        due("haze behind 17 weeks", 8, x.jar(0, 5));
        Check.weeks(x, 5);
        due("9 at most", 9, x.jar(0, 5));
        due("a jar of size 9 never cracks", 0, x.shake());
        due("it looks on", 2, x.jar(0, 6));
    }

    private static void shake() {
        due("a shake of nobody", 0, new GreenJars().shake());
        // Sizes 1, 2, 3 and a colonel of size 1, and a colonel of size 9.
        GreenJars x = Check.shelf("SJ00001J10002J20003J30031J40039");
        Check.weeks(x, 4);
        due("size 1 cracks at haze 2", 2, x.shake());
        due("cracked", 0b01001, x.about(3));
        due("size 2 does not", 0, x.jar(1, 7));
        due("a cracked one does not look on", 1, x.jar(0, 6));
        due("a cracked one keeps the haze that it had", 2, x.jar(0, 5));
        due("another one looks on", 2, x.jar(1, 6));
        due("a colonel does not", 1, x.jar(4, 6));
        due("nothing cracks twice", 0, x.shake());
        due("right, then back", 3, x.jar(1, 6));
        x.shake();
        due("back, then left", 0, x.jar(1, 6));
        x.shake();
        due("left, then out", 1, x.jar(1, 6));
        due("no week has gone", 4, x.about(1));
    }

    private static void set() {
        GreenJars x = Check.shelf("SJ00001J10009J20009");
        due("set", 0, x.set(0, 7));
        due("it is there", 0, x.at(7));
        due("it was there", GreenJars.NONE, x.at(0));
        due("set back", 7, x.set(0, 0));
        String before = Check.state(x);
        due("no such jar", GreenJars.UNKNOWN, x.set(3, 5));
        due("jar -1", GreenJars.UNKNOWN, x.set(-1, 5));
        due("place 8", GreenJars.UNKNOWN, x.set(0, 8));
        due("place -1", GreenJars.UNKNOWN, x.set(0, -1));
        due("taken", GreenJars.LATE, x.set(0, 1));
        due("its own", GreenJars.LATE, x.set(0, 0));
        CHECK.same("refused set", before, x);
        x.open(1);
        due("an open jar's place is free", 2, x.set(2, 1));
        due("an open jar is not set", GreenJars.LATE, x.set(1, 5));
        due("UNKNOWN ahead of LATE", GreenJars.UNKNOWN, x.set(1, 8));
        Check.weeks(x, 4);
        x.shake();
        due("a cracked one is not set", GreenJars.LATE, x.set(0, 5));
        due("a cracked one's place is taken", GreenJars.LATE, x.set(2, 0));
    }

    private static void pour() {
        GreenJars x = Check.shelf("SJ05001J15309");
        Check.weeks(x, 2);
        due("haze", 1, x.jar(1, 5));
        due("pour", 3, x.pour(1, 2));
        due("its stuff", 2, x.jar(1, 2));
        due("its haze", 0, x.jar(1, 5));
        due("its flavour", 5, x.jar(1, 1));
        String before = Check.state(x);
        due("it is in that", GreenJars.LATE, x.pour(1, 2));
        due("stuff 4", GreenJars.UNKNOWN, x.pour(1, 4));
        due("stuff -1", GreenJars.UNKNOWN, x.pour(1, -1));
        due("jar 2", GreenJars.UNKNOWN, x.pour(2, 0));
        due("jar -1", GreenJars.UNKNOWN, x.pour(-1, 0));
        CHECK.same("refused pour", before, x);
        Check.weeks(x, 2);
        x.shake();
        due("cracked", GreenJars.LATE, x.pour(0, 1));
        x.open(1);
        due("open", GreenJars.LATE, x.pour(1, 1));
        due("UNKNOWN ahead of LATE", GreenJars.UNKNOWN, x.pour(1, 4));
    }

    private static void open() {
        GreenJars x = Check.shelf("SJ07001J13309");
        due("open", 3, x.open(1));
        due("it is open", 0b10, x.about(4));
        String before = Check.state(x);
        due("open twice", GreenJars.LATE, x.open(1));
        due("jar 2", GreenJars.UNKNOWN, x.open(2));
        due("jar -1", GreenJars.UNKNOWN, x.open(-1));
        CHECK.same("refused open", before, x);
        Check.weeks(x, 4);
        x.shake();
        due("a cracked one", GreenJars.LATE, x.open(0));
        x.undo();
        due("before it cracked", 9, x.open(0));
    }

    private static void undo() {
        GreenJars x = Check.shelf("SJ07011J13302J50103");
        String[] before = new String[20];
        int acts = 0;
        before[acts++] = Check.state(x);
        x.week();
        before[acts++] = Check.state(x);
        x.week();
        before[acts++] = Check.state(x);
        x.set(1, 7);
        before[acts++] = Check.state(x);
        x.pour(2, 0);
        before[acts++] = Check.state(x);
        Check.weeks(x, 1);
        before[acts++] = Check.state(x);
        Check.weeks(x, 1);
        before[acts++] = Check.state(x);
        due("cracks", 1, x.shake());
        before[acts++] = Check.state(x);
        x.open(1);
        for (int k = acts - 1; k >= 0; k--) {
            due("undo to " + k, k, x.undo());
            CHECK.same("undo to " + k, before[k], x);
        }
        due("undo", GreenJars.LATE, x.undo());
        forgotten();
    }

    private static void forgotten() {
        GreenJars x = Check.shelf("SJ00009");
        for (int k = 1; k <= 20; k++) {
            x.week();
            due("acts behind " + k, Math.min(k, 14), x.about(7));
        }
        for (int left = 13; left >= 0; left--) {
            due("undo", left, x.undo());
        }
        due("nothing left", GreenJars.LATE, x.undo());
        due("six weeks can not be undone", 6, x.about(1));
        x.week();
        due("an act again", 1, x.about(7));
        due("undone", 0, x.undo());
        due("week 6", 6, x.about(1));
        due("its flavour", 6, x.jar(0, 1));
    }
}
