import java.util.ArrayList;
import java.util.List;
import java.util.function.ToLongFunction;

/** Promises 9 to 14 at their edges, sentence by sentence: weeks, shakes, jars set, poured over, opened, and all undone. */
public final class ActsEdgesTest {
    private static final Sentences S = new Sentences();
    private static final int UNKNOWN = -1, LATE = -3, NONE = -9;
    private static final int[] NO_JAR = {-1, 6, NONE, Integer.MIN_VALUE, Integer.MAX_VALUE};

    public static void main(String[] args) {
        weekByStuff();
        weekByKind();
        weekOfWhole();
        weekNumber();
        shakeCracks();
        shakeTurns();
        set();
        pour();
        open();
        undoLast();
        undoForgotten();
        undoAlone();
        S.end("ActsEdgesTest", 9, 14);
    }

    /** The flavours of one plain jar, week by week, from its first one on. */
    private static void flavours(int stuff, int... told) {
        GreenJars x = Check.shelf("SJ0" + told[0] + stuff + "09");
        for (int week = 1; week < told.length; week++) {
            S.due("week " + week + " from " + told[0], told[week], x.week());
            S.due("its flavour", told[week], x.jar(0, 1));
        }
    }

    private static void weekByStuff() {
        S.of(9, "SYRUP 1 more (9 at most)");
        flavours(0, 0, 1, 2, 3);
        flavours(0, 4, 5, 6);
        flavours(0, 8, 9, 9, 9);
        flavours(0, 9, 9, 9);
        S.of(9, "VINEGAR 1 less (0 at least)");
        flavours(1, 9, 8, 7, 6);
        flavours(1, 6, 5, 4);
        flavours(1, 1, 0, 0, 0);
        flavours(1, 0, 0, 0);
        S.of(9, "BRANDY 1 nearer to 5");
        flavours(2, 0, 1, 2, 3, 4, 5, 5, 5);
        flavours(2, 9, 8, 7, 6, 5, 5, 5);
        flavours(2, 4, 5, 5);
        flavours(2, 6, 5, 5);
        flavours(2, 5, 5, 5);
        S.of(9, "BRINE as it is");
        for (int flavour = 0; flavour <= 9; flavour++) {
            flavours(3, flavour, flavour, flavour, flavour);
        }
    }

    private static void weekByKind() {
        S.of(9, "a COLONEL's FLAVOUR only in even WEEKS");
        int[][] colonels = {{2, 3, 3, 4, 4, 5, 5}, {7, 6, 6, 5, 5, 4, 4}, {2, 3, 3, 4, 4, 5, 5}, {7, 7, 7, 7, 7, 7, 7}};
        for (int stuff = 0; stuff <= 3; stuff++) {
            GreenJars x = Check.shelf("SJ0" + colonels[stuff][0] + stuff + "39");
            for (int week = 1; week <= 6; week++) {
                S.due("a colonel in stuff " + stuff + ", week " + week, colonels[stuff][week], x.week());
            }
        }
        S.of(9, "other KINDS' FLAVOURS in all WEEKS");
        for (int kind = 0; kind <= 2; kind++) {
            GreenJars x = Check.shelf("SJ020" + kind + "9");
            for (int week = 1; week <= 4; week++) {
                S.due("kind " + kind + ", week " + week, 2 + week, x.week());
            }
        }
        S.of(9, "HAZE: 1 more (9 at most) in odd WEEKS");
        for (int kind : new int[] {0, 1, 3}) {
            GreenJars x = Check.shelf("SJ053" + kind + "9");
            for (int week = 0; week <= 23; week++) {
                S.due("haze of kind " + kind + " in week " + week, Math.min(week / 2, 9), x.jar(0, 5));
                x.week();
            }
        }
        S.of(9, "a SEER's HAZE never");
        GreenJars seer = Check.shelf("SJ05329");
        for (int week = 0; week <= 20; week++) {
            S.due("haze in week " + week, 0, seer.jar(0, 5));
            seer.week();
        }
        S.of(9, "a TURNER LOOKS on: 0, 1, 2, 3, 0, ..");
        GreenJars turner = Check.shelf("SJ05319");
        int[] looks = {1, 2, 3, 0, 1, 2, 3, 0, 1};
        for (int week = 0; week < looks.length; week++) {
            S.due("look in week " + week, looks[week], turner.jar(0, 6));
            turner.week();
        }
        S.of(9, "no other KIND LOOKS on");
        for (int kind : new int[] {0, 2, 3}) {
            GreenJars x = Check.shelf("SJ053" + kind + "9");
            for (int week = 1; week <= 5; week++) {
                x.week();
                S.due("look of kind " + kind + " in week " + week, 1, x.jar(0, 6));
            }
        }
    }

    private static void weekOfWhole() {
        S.of(9, "FLAVOURS of all whole JARS, together, then: the least and the greatest");
        S.due("six of 9", 54, Check.shelf("SJ09009J19009J29009J38009J49309J58009").week());
        S.due("six of 0", 0, Check.shelf("SJ00109J10109J20309J31109J40309J51109").week());
        S.due("then, not ahead", 3, Check.shelf("SJ02009").week());
        S.due("nobody", 0, new GreenJars().week());
        S.due("none whole", 0, Shelves.noneWhole().week());
        S.of(9, "for each JAR that is whole: no other one is counted, or changed");
        GreenJars x = Check.shelf("SJ03011J14019J25009");
        Check.weeks(x, 4);
        x.shake();
        x.open(1);
        int[] cracked = {0, 7, 0, 1, 1, 2, 1, 1};
        int[] open = {1, 8, 0, 1, 9, 2, 2, 2};
        for (int week = 1; week <= 3; week++) {
            S.due("the whole one's", 9, x.week());
            for (int what = 0; what <= 7; what++) {
                S.due("cracked, " + what, cracked[what], x.jar(0, what));
                S.due("open, " + what, open[what], x.jar(1, what));
            }
        }
        S.of(9, "it is an ACT, whoever is there");
        for (GreenJars y : new GreenJars[] {new GreenJars(), Shelves.noneWhole(), Check.shelf("SJ05309")}) {
            int acts = y.about(7);
            y.week();
            S.due("acts", acts + 1, y.about(7));
        }
    }

    private static void weekNumber() {
        S.of(9, "THE WEEK is one more");
        GreenJars x = new GreenJars();
        for (int week = 0; week <= 40; week++) {
            S.due("the week of an empty shelf", week, x.about(1));
            x.week();
        }
        GreenJars none = Shelves.noneWhole();
        none.week();
        S.due("the week when none is whole", 5, none.about(1));
        S.of(9, "odd and even go by THE WEEK, also when a WEEK is undone");
        GreenJars y = Check.shelf("SJ02039");
        S.due("week 0", 3, y.week());
        S.due("week 1", 3, y.week());
        S.due("its haze", 1, y.jar(0, 5));
        y.undo();
        S.due("its haze, undone", 0, y.jar(0, 5));
        S.due("week 1 once more", 3, y.week());
        S.due("its haze", 1, y.jar(0, 5));
        S.due("week 2", 4, y.week());
        y.undo();
        y.undo();
        y.undo();
        S.due("week 0 once more", 3, y.week());
        S.of(9, "odd and even go by THE WEEK, not by how many ACTS there were");
        GreenJars z = Check.shelf("SJ02039");
        z.shake();
        S.due("week 0", 3, z.week());
        z.shake();
        z.set(0, 3);
        S.due("week 1", 3, z.week());
        S.due("week 2", 4, z.week());
    }

    private static void shakeCracks() {
        S.of(10, "each whole JAR of SIZE less than its HAZE is CRACKED");
        for (int size = 1; size <= 9; size++) {
            for (int haze = 0; haze <= 9; haze++) {
                GreenJars x = Check.shelf("SJ0530" + size);
                Check.weeks(x, 2 * haze);
                int cracks = size < haze ? 1 : 0;
                S.due("size " + size + " in haze " + haze, cracks, x.shake());
                S.due("cracked", cracks, x.about(3));
                S.due("whole", 1 - cracks, x.about(2));
                S.due("it looks on", cracks == 1 ? 1 : 2, x.jar(0, 6));
            }
        }
        S.of(10, "CRACKED is each KIND but a SEER, who has no HAZE");
        GreenJars kinds = Check.shelf("SJ05301J15311J25321J35331");
        Check.weeks(kinds, 4);
        S.due("cracks", 3, kinds.shake());
        S.due("cracked", 0b1011, kinds.about(3));
        S.of(10, "how many CRACK: 0 .. 6");
        String jars = "SJ05301J15301J25301J35301J45301J55301";
        for (int count = 0; count <= 6; count++) {
            GreenJars x = Check.shelf(jars.substring(0, 1 + 6 * count));
            Check.weeks(x, 4);
            S.due("cracks of " + count, count, x.shake());
            S.due("none cracks twice", 0, x.shake());
            S.due("cracked", (1 << count) - 1, x.about(3));
        }
        S.of(10, "an OPEN one does not CRACK");
        GreenJars open = Check.shelf("SJ05301");
        Check.weeks(open, 4);
        open.open(0);
        S.due("cracks", 0, open.shake());
        S.due("it is open", 2, open.jar(0, 7));
        S.of(10, "CRACKED JARS stay at their PLACES, as they are");
        GreenJars x = Check.shelf("SJ75001");
        Check.weeks(x, 4);
        x.shake();
        int[] told = {7, 9, 0, 0, 1, 2, 1, 1, NONE};
        for (int what = 0; what <= 8; what++) {
            S.due("cracked, " + what, told[what], x.jar(0, what));
        }
        S.due("at 7", 0, x.at(7));
        S.due("places", 128, x.about(5));
    }

    private static void shakeTurns() {
        S.of(10, "each other whole one LOOKS on: 0, 1, 2, 3, 0, ..");
        for (int kind = 0; kind <= 2; kind++) {
            GreenJars x = Check.shelf("SJ053" + kind + "9");
            int[] looks = {1, 2, 3, 0, 1, 2, 3, 0, 1};
            for (int k = 0; k < looks.length; k++) {
                S.due("kind " + kind + ", shaken " + k, looks[k], x.jar(0, 6));
                x.shake();
            }
        }
        S.of(10, "but COLONELS");
        GreenJars colonel = Check.shelf("SJ05339");
        for (int k = 0; k < 5; k++) {
            colonel.shake();
            S.due("a colonel", 1, colonel.jar(0, 6));
        }
        S.of(10, "who is CRACKED or OPEN does not LOOK on");
        GreenJars broken = Shelves.broken();
        int cracked = broken.jar(0, 6);
        int open = broken.jar(1, 6);
        Check.shakes(broken, 3);
        S.due("cracked", cracked, broken.jar(0, 6));
        S.due("open", open, broken.jar(1, 6));
        S.due("whole", 1, broken.jar(2, 6));
        S.of(10, "nothing else is changed by it");
        GreenJars x = Check.shelf("SJ25013");
        Check.weeks(x, 3);
        x.shake();
        int[] told = {2, 8, 0, 1, 3, 1, 1, 0};
        for (int what = 0; what <= 7; what++) {
            S.due("jar, " + what, told[what], x.jar(0, what));
        }
        S.due("the week", 3, x.about(1));
        S.of(10, "it is an ACT, whoever is there");
        for (GreenJars y : new GreenJars[] {new GreenJars(), Shelves.noneWhole(), Check.shelf("SJ05339")}) {
            int acts = y.about(7);
            S.due("cracks", 0, y.shake());
            S.due("acts", acts + 1, y.about(7));
        }
    }

    private static void set() {
        S.of(11, "the PLACE where it was, from each PLACE to each other one");
        for (int from = 0; from <= 7; from++) {
            for (int to = 0; to <= 7; to++) {
                GreenJars x = Check.shelf("SJ" + from + "5309");
                S.due("from " + from + " to " + to, from == to ? LATE : from, x.set(0, to));
                S.due("its place", to, x.jar(0, 0));
                S.due("at " + to, 0, x.at(to));
                S.due("places", 1 << to, x.about(5));
                S.due("acts", from == to ? 0 : 1, x.about(7));
            }
        }
        S.of(11, "only its PLACE is another one");
        GreenJars x = Shelves.half();
        int[] told = new int[8];
        for (int what = 0; what <= 7; what++) {
            told[what] = x.jar(0, what);
        }
        S.due("set", 7, x.set(0, 0));
        for (int what = 1; what <= 7; what++) {
            S.due("jar, " + what, told[what], x.jar(0, what));
        }
        S.due("the week", 2, x.about(1));
        S.of(11, "UNKNOWN: jar, place");
        S.keeps("jar 0 of none", UNKNOWN, GreenJars::new, y -> y.set(0, 0));
        S.keeps("jar 3 of three", UNKNOWN, Shelves::half, y -> y.set(3, 0));
        for (int jar : NO_JAR) {
            S.keepsAll("jar " + jar, UNKNOWN, y -> y.set(jar, 5));
        }
        for (int place : new int[] {-1, 8, NONE, Integer.MIN_VALUE, Integer.MAX_VALUE}) {
            S.keepsAll("place " + place, UNKNOWN, y -> y.set(2, place));
        }
        S.of(11, "LATE: it is not whole");
        S.keeps("a cracked one", LATE, Shelves::broken, y -> y.set(0, 7));
        S.keeps("an open one", LATE, Shelves::broken, y -> y.set(1, 7));
        S.keeps("an open one where it was", LATE, Shelves::broken, y -> y.set(1, 1));
        S.of(11, "LATE: a JAR is there, whole or CRACKED, or itself");
        S.keeps("a whole one is there", LATE, Shelves::half, y -> y.set(0, 2));
        S.keeps("a cracked one is there", LATE, Shelves::broken, y -> y.set(2, 0));
        S.keeps("itself is there", LATE, Shelves::half, y -> y.set(2, 2));
        S.of(11, "where an OPEN one was, it can be SET");
        S.due("set", 2, Shelves.broken().set(2, 1));
        S.of(11, "UNKNOWN is told ahead of LATE");
        S.keeps("a cracked one at 8", UNKNOWN, Shelves::full, y -> y.set(0, 8));
        S.keeps("an open one at -1", UNKNOWN, Shelves::full, y -> y.set(1, -1));
        S.keeps("jar 6 where one is", UNKNOWN, Shelves::full, y -> y.set(6, 0));
    }

    private static void pour() {
        S.of(12, "the STUFF in which it was, from each STUFF to each other one");
        for (int from = 0; from <= 3; from++) {
            for (int to = 0; to <= 3; to++) {
                GreenJars x = Check.shelf("SJ05" + from + "09");
                S.due("from " + from + " to " + to, from == to ? LATE : from, x.pour(0, to));
                S.due("its stuff", to, x.jar(0, 2));
                S.due("acts", from == to ? 0 : 1, x.about(7));
                S.due("a week in it", new int[] {6, 4, 5, 5}[to], x.week());
            }
        }
        S.of(12, "its HAZE is 0");
        GreenJars hazy = Check.shelf("SJ05309J15309");
        Check.weeks(hazy, 18);
        S.due("haze", 9, hazy.jar(0, 5));
        hazy.pour(0, 2);
        S.due("haze, poured", 0, hazy.jar(0, 5));
        S.due("the other one's", 9, hazy.jar(1, 5));
        Check.weeks(hazy, 2);
        S.due("haze anew", 1, hazy.jar(0, 5));
        S.of(12, "nothing else of it is another one");
        GreenJars x = Shelves.half();
        int[] told = new int[8];
        for (int what = 0; what <= 7; what++) {
            told[what] = x.jar(1, what);
        }
        S.due("pour", 1, x.pour(1, 3));
        for (int what : new int[] {0, 1, 3, 4, 6, 7}) {
            S.due("jar, " + what, told[what], x.jar(1, what));
        }
        S.due("the week", 2, x.about(1));
        S.of(12, "UNKNOWN: jar, stuff");
        S.keeps("jar 0 of none", UNKNOWN, GreenJars::new, y -> y.pour(0, 1));
        S.keeps("jar 3 of three", UNKNOWN, Shelves::half, y -> y.pour(3, 0));
        for (int jar : NO_JAR) {
            S.keepsAll("jar " + jar, UNKNOWN, y -> y.pour(jar, 1));
        }
        for (int stuff : new int[] {-1, 4, NONE, Integer.MIN_VALUE, Integer.MAX_VALUE}) {
            S.keepsAll("stuff " + stuff, UNKNOWN, y -> y.pour(2, stuff));
        }
        S.of(12, "LATE: it is not whole");
        S.keeps("a cracked one", LATE, Shelves::broken, y -> y.pour(0, 1));
        S.keeps("an open one", LATE, Shelves::broken, y -> y.pour(1, 1));
        S.of(12, "LATE: it is in that");
        S.keeps("syrup in syrup", LATE, Shelves::half, y -> y.pour(0, 0));
        S.keeps("brandy in brandy, in haze", LATE, Shelves::half, y -> y.pour(2, 2));
        S.of(12, "UNKNOWN is told ahead of LATE");
        S.keeps("a cracked one in 4", UNKNOWN, Shelves::full, y -> y.pour(0, 4));
        S.keeps("an open one in -1", UNKNOWN, Shelves::full, y -> y.pour(1, -1));
    }

    private static void open() {
        S.of(13, "its FLAVOUR: 0 .. 9");
        for (int flavour = 0; flavour <= 9; flavour++) {
            GreenJars x = Check.shelf("SJ0" + flavour + "309");
            S.due("open", flavour, x.open(0));
            S.due("acts", 1, x.about(7));
        }
        S.due("behind a week", 6, afterAWeek().open(0));
        S.of(13, "whoever is in it is out, as it is");
        GreenJars x = Check.shelf("SJ75019");
        Check.weeks(x, 3);
        x.open(0);
        int[] told = {7, 8, 0, 1, 9, 1, 0, 2, NONE};
        for (int what = 0; what <= 8; what++) {
            S.due("open, " + what, told[what], x.jar(0, what));
        }
        S.of(13, "its PLACE is free");
        S.due("at 7", NONE, x.at(7));
        S.due("places", 0, x.about(5));
        S.of(13, "it is no JAR that is whole any more");
        S.due("whole", 0, x.about(2));
        S.due("open", 1, x.about(4));
        S.due("week", 0, x.week());
        S.due("becomes", LATE, x.becomes(0, 8));
        S.due("fails", LATE, x.fails(0));
        S.of(13, "UNKNOWN");
        S.keeps("jar 0 of none", UNKNOWN, GreenJars::new, y -> y.open(0));
        S.keeps("jar 3 of three", UNKNOWN, Shelves::half, y -> y.open(3));
        for (int jar : NO_JAR) {
            S.keepsAll("jar " + jar, UNKNOWN, y -> y.open(jar));
        }
        S.due("the last of six", 4, Shelves.full().open(5));
        S.of(13, "LATE: it is not whole");
        S.keeps("a cracked one", LATE, Shelves::full, y -> y.open(0));
        S.keeps("an open one", LATE, Shelves::full, y -> y.open(1));
    }

    private static GreenJars afterAWeek() {
        GreenJars x = Check.shelf("SJ05009");
        x.week();
        return x;
    }

    private static void undone(String act, ToLongFunction<GreenJars> run) {
        GreenJars x = Shelves.half();
        run.applyAsLong(x);
        S.due("acts, " + act, 5, x.about(7));
        S.due("undo, " + act, 4, x.undo());
        S.same(act, Shelves.lookAtAll(Shelves.half()), Shelves.lookAtAll(x));
        GreenJars y = Shelves.half();
        run.applyAsLong(y);
        y.undo();
        S.same(act + ", acts ahead", Shelves.lookAtActs(Shelves.half()), Shelves.lookAtActs(y));
    }

    private static void undoLast() {
        S.of(14, "the last ACT is undone, of each sort");
        undone("week", GreenJars::week);
        undone("shake", GreenJars::shake);
        undone("set", x -> x.set(0, 0));
        undone("pour", x -> x.pour(0, 3));
        undone("open", x -> x.open(2));
        S.of(14, "a shake is undone by which some CRACKED");
        GreenJars x = Check.shelf("SJ05301J15309J25331");
        Check.weeks(x, 4);
        String before = Check.state(x);
        S.due("cracks", 2, x.shake());
        S.due("undo", 4, x.undo());
        S.same("undo", before, Check.state(x));
        S.of(14, "how many are left");
        GreenJars y = Shelves.half();
        for (int left = 3; left >= 0; left--) {
            S.due("undo", left, y.undo());
            S.due("acts", left, y.about(7));
        }
        S.of(14, "LATE: there is none");
        S.keeps("undo of none", LATE, GreenJars::new, GreenJars::undo);
        S.keeps("undo behind a sale", LATE, () -> Check.shelf("SJ05309"), GreenJars::undo);
        S.keeps("undo of all, and once more", LATE, ActsEdgesTest::allUndone, GreenJars::undo);
        S.keeps("undo when one has gone on", LATE, ActsEdgesTest::goneOn, GreenJars::undo);
    }

    private static GreenJars allUndone() {
        GreenJars x = Shelves.full();
        for (int k = 0; k < 14; k++) {
            x.undo();
        }
        return x;
    }

    private static GreenJars goneOn() {
        GreenJars x = Shelves.full();
        x.again(0);
        return x;
    }

    private static void undoForgotten() {
        S.of(14, "ACTS are 14 at most; when it is full, the first one is forgotten");
        for (int acts = 1; acts <= 45; acts++) {
            GreenJars x = Check.shelf("SJ05309");
            Check.weeks(x, acts);
            int most = Math.min(acts, 14);
            S.due("acts behind " + acts, most, x.about(7));
            for (int left = most - 1; left >= 0; left--) {
                S.due("undo behind " + acts, left, x.undo());
                S.due("the week", acts - most + left, x.about(1));
            }
            S.due("undo of what is forgotten", LATE, x.undo());
            S.due("the week that stays", acts - most, x.about(1));
        }
        S.of(14, "what is forgotten is the first one, of whatever sort");
        GreenJars x = Check.shelf("SJ05301J15309");
        Check.weeks(x, 4);
        x.undo();
        x.set(0, 7);
        for (int k = 0; k < 10; k++) {
            x.shake();
        }
        S.due("acts", 14, x.about(7));
        x.open(1);
        S.due("acts, one forgotten", 14, x.about(7));
        for (int k = 0; k < 14; k++) {
            x.undo();
        }
        S.due("the first week stays", 1, x.about(1));
        S.due("its place", 0, x.jar(0, 0));
        S.of(14, "ACTS go round: undone, done and forgotten in turn");
        GreenJars y = Check.shelf("SJ00309");
        List<Integer> weeks = new ArrayList<>();
        int[] doings = {9, -3, 12, -14, 2, 20, -1, 1, -14, -1, 15, -5, 4, -13};
        for (int doing : doings) {
            for (int k = 0; k < Math.abs(doing); k++) {
                step(y, weeks, doing > 0);
            }
        }
    }

    /** A week, or one undone, beside a list of the weeks to which one can go back. */
    private static void step(GreenJars y, List<Integer> weeks, boolean on) {
        int week = y.about(1);
        if (on) {
            y.week();
            weeks.add(week);
            if (weeks.size() > 14) {
                weeks.remove(0);
            }
            S.due("the week", week + 1, y.about(1));
        } else if (weeks.isEmpty()) {
            S.due("undo", LATE, y.undo());
            S.due("the week", week, y.about(1));
        } else {
            int back = weeks.remove(weeks.size() - 1);
            S.due("undo", weeks.size(), y.undo());
            S.due("the week", back, y.about(1));
        }
        S.due("acts", weeks.size(), y.about(7));
    }

    private static void undoAlone() {
        S.of(14, "undo is no ACT, and what is refused is none");
        GreenJars x = Shelves.half();
        x.undo();
        S.due("acts", 3, x.about(7));
        x.set(0, 7);
        x.pour(0, 0);
        x.open(9);
        x.keep(5);
        S.due("acts", 3, x.about(7));
        S.of(14, "undo leaves THE TEXT, TASTED, THE SEED and SLOTS");
        GreenJars y = Shelves.half();
        y.write('J');
        y.taste(1, 1);
        y.keep(0);
        y.seed(12);
        y.undo();
        S.due("bytes", 20, y.about(9));
        S.due("tasted", 3, y.about(8));
        S.due("slot 0", 2, y.again(0));
        S.due("its place, as it was kept", 1, y.jar(1, 0));
        S.due("seed", 12, y.seed(0));
    }
}
