/** Promises 1 to 8: a new object, and the sale. */
public final class SaleTest {
    private static final Check CHECK = new Check();
    private static final String SIX = "SJ00001J10001J20001J30001J40001J50001";

    public static void main(String[] args) {
        newObject();
        write();
        wipe();
        fault();
        sale();
        about();
        jar();
        at();
        CHECK.end("SaleTest");
    }

    private static void due(String call, long want, long got) {
        CHECK.due(call, want, got);
    }

    private static void newObject() {
        GreenJars x = new GreenJars();
        for (int what = 0; what <= 9; what++) {
            due("new about " + what, 0, x.about(what));
        }
        for (int place = 0; place < 8; place++) {
            due("new at " + place, GreenJars.NONE, x.at(place));
        }
        due("new jar", GreenJars.UNKNOWN, x.jar(0, 0));
        due("new undo", GreenJars.LATE, x.undo());
        due("new again 0", GreenJars.LATE, x.again(0));
        due("new again 1", GreenJars.LATE, x.again(1));
        due("new kept", 40, x.kept(0));
        due("new seed", 0, x.seed(1));
    }

    private static void write() {
        GreenJars x = new GreenJars();
        due("write -1", GreenJars.BAD, x.write(-1));
        due("write 256", GreenJars.BAD, x.write(256));
        due("write least", GreenJars.BAD, x.write(Integer.MIN_VALUE));
        due("length", 0, x.about(9));
        due("write 0", 1, x.write(0));
        due("write 255", 2, x.write(255));
        for (int k = 3; k <= 48; k++) {
            due("write no " + k, k, x.write('S'));
        }
        due("write no 49", GreenJars.FULL, x.write('S'));
        due("BAD is told ahead of FULL", GreenJars.BAD, x.write(256));
        due("length", 48, x.about(9));
    }

    private static void wipe() {
        GreenJars x = Check.written("SJ0");
        due("wipe", 3, x.wipe());
        due("wipe again", 0, x.wipe());
        due("length", 0, x.about(9));
        due("write anew", 1, x.write('S'));
        due("fault anew", GreenJars.NONE, x.fault());
        Check.rewrite(x, SIX);
        x.sale();
        x.wipe();
        due("wipe leaves the sale", 6, x.about(0));
    }

    private static void fault() {
        int none = GreenJars.NONE;
        faultOf("", 0);
        faultOf("S", none);
        faultOf("s", 0);
        faultOf("J", 0);
        faultOf("XJ79331", 0);
        faultOf("SS", 1);
        faultOf("Sj", 1);
        faultOf("SJ", 2);
        faultOf("SJ8", 2);
        faultOf("SJ/", 2);
        faultOf("SJ7", 3);
        faultOf("SJ7:", 3);
        faultOf("SJ7/", 3);
        faultOf("SJ79", 4);
        faultOf("SJ794", 4);
        faultOf("SJ793", 5);
        faultOf("SJ7934", 5);
        faultOf("SJ7933", 6);
        faultOf("SJ79330", 6);
        faultOf("SJ7933:", 6);
        faultOf("SJ79331", none);
        faultOf("SJ79339", none);
        faultOf("SJ00001", none);
        faultOf("SJ793311", 7);
        faultOf("SJ79331J", 8);
        faultOf("SJ79331J7", 8);
        faultOf("SJ79331J6", 9);
        faultOf("SJ79331J60001J7", 14);
        faultOf("SJ79331J60001J6", 14);
        faultOf(SIX, none);
        faultOf(SIX + "J", 37);
        faultOf(SIX + "X", 37);
        faultOf(SIX + "J70001", 37);
        faultOf(SIX + "J70001J6000", 37);
        faultOf("S" + (char) 0, 1);
        faultOf("SJ" + (char) 255, 2);
        faultOf("SJ8XXXX", 2);
    }

    private static void faultOf(String text, int want) {
        GreenJars x = Check.written(text);
        due("fault of " + text, want, x.fault());
        due("bytes of " + text, text.length(), x.about(9));
        int jars = want == GreenJars.NONE ? text.length() / 6 : GreenJars.LATE;
        due("sale of " + text, jars, x.sale());
    }

    private static void sale() {
        GreenJars x = Check.shelf("SJ25011J53121");
        Check.weeks(x, 4);
        x.shake();
        x.keep(0);
        x.keep(1);
        x.taste(1, 2);
        x.seed(77);
        x.write('Z');
        due("sale with a fault", GreenJars.LATE, x.sale());
        due("acts stay", 5, x.about(7));
        due("slots stay", 4, x.again(0));
        Check.rewrite(x, "SJ25011J53121");
        due("sale", 2, x.sale());
        due("week is 0", 0, x.about(1));
        due("all whole", 3, x.about(2));
        due("none cracked", 0, x.about(3));
        due("no acts", 0, x.about(7));
        due("tasted stays", 1, x.about(8));
        due("text stays", 13, x.about(9));
        due("no haze", 0, x.jar(0, 5));
        due("looks out", 1, x.jar(0, 6));
        due("undo", GreenJars.LATE, x.undo());
        due("slot 0 gone", GreenJars.LATE, x.again(0));
        due("slot 1 gone", GreenJars.LATE, x.again(1));
        due("the seed stays", 77, x.seed(0));
        Check.rewrite(x, "S");
        due("sale of none", 0, x.sale());
        due("no jars", 0, x.about(0));
        due("none at 2", GreenJars.NONE, x.at(2));
    }

    private static void about() {
        // Two small jars crack behind 4 weeks, one is opened, three stay whole.
        GreenJars x = Check.shelf("SJ05001J15009J35001J45009J65009J75009");
        due("jars", 6, x.about(0));
        due("places", 0b11011011, x.about(5));
        Check.weeks(x, 4);
        due("cracks", 2, x.shake());
        due("opens", 9, x.open(5));
        due("jars", 6, x.about(0));
        due("week", 4, x.about(1));
        due("whole", 0b011010, x.about(2));
        due("cracked", 0b000101, x.about(3));
        due("open", 0b100000, x.about(4));
        due("places", 0b01011011, x.about(5));
        due("pairs", 0, x.about(6));
        due("acts", 6, x.about(7));
        due("tasted", 0, x.about(8));
        due("bytes", 37, x.about(9));
        due("about -1", GreenJars.BAD, x.about(-1));
        due("about 10", GreenJars.BAD, x.about(10));
        due("about most", GreenJars.BAD, x.about(Integer.MAX_VALUE));
        GreenJars pair = facing();
        due("a pair", 1, pair.about(6));
    }

    /** A turner that looks right, and a plain one to its right that looks left. */
    private static GreenJars facing() {
        GreenJars x = Check.shelf("SJ05319J15309J35309");
        Check.shakes(x, 3);
        due("all look left", 0, x.about(6));
        Check.weeks(x, 2);
        due("the turner looks right", 2, x.jar(0, 6));
        due("the plain one looks left", 0, x.jar(1, 6));
        return x;
    }

    private static void jar() {
        GreenJars x = Check.shelf("SJ79324J31234");
        int[] first = {7, 9, 3, 2, 4, 0, 1, 0, GreenJars.NONE};
        int[] second = {3, 1, 2, 3, 4, 0, 1, 0, GreenJars.NONE};
        for (int what = 0; what <= 8; what++) {
            due("jar 0, " + what, first[what], x.jar(0, what));
            due("jar 1, " + what, second[what], x.jar(1, what));
        }
        due("jar -1", GreenJars.UNKNOWN, x.jar(-1, 0));
        due("jar 2", GreenJars.UNKNOWN, x.jar(2, 0));
        due("UNKNOWN ahead of BAD", GreenJars.UNKNOWN, x.jar(2, 99));
        due("what -1", GreenJars.BAD, x.jar(0, -1));
        due("what 9", GreenJars.BAD, x.jar(0, 9));
        x.open(1);
        due("the place of an open jar", 3, x.jar(1, 0));
        due("an open jar", 2, x.jar(1, 7));
        due("an open jar sees none", GreenJars.NONE, x.jar(1, 8));
        sees();
    }

    private static void sees() {
        // Far apart, without haze: 7 places are no more than 9.
        GreenJars far = Check.shelf("SJ00309J70309");
        far.shake();
        due("sees to the right", 1, far.jar(0, 8));
        due("none on the right", GreenJars.NONE, far.jar(1, 8));
        Check.weeks(far, 2);
        due("9 less 1 and 1 is 7", 1, far.jar(0, 8));
        Check.weeks(far, 2);
        due("9 less 2 and 2 is less than 7", GreenJars.NONE, far.jar(0, 8));
        due("poured, it is clear again", 3, far.pour(0, 0));
        due("9 less 0 and 2 is 7", 1, far.jar(0, 8));
        Check.shakes(far, 2);
        due("sees to the left", 0, far.jar(1, 8));
        far.shake();
        due("out", GreenJars.NONE, far.jar(1, 8));
        // A seer sees however hazy the other one is.
        GreenJars seer = Check.shelf("SJ00329J70309");
        Check.weeks(seer, 12);
        seer.shake();
        due("the seer has no haze", 0, seer.jar(0, 5));
        due("the other one has", 6, seer.jar(1, 5));
        due("a seer sees", 1, seer.jar(0, 8));
        seer.shake();
        seer.shake();
        due("is seen by no plain one", GreenJars.NONE, seer.jar(1, 8));
        nearest();
    }

    private static void nearest() {
        // The cracked one hides what is behind it, and its haze counts for nothing.
        GreenJars x = Check.shelf("SJ00309J65301J70309");
        Check.weeks(x, 4);
        due("cracks", 1, x.shake());
        due("6 are no more than 9 less 2", 1, x.jar(0, 8));
        due("a cracked one sees none", GreenJars.NONE, x.jar(1, 8));
        due("a cracked one stays", 1, x.at(6));
        Check.weeks(x, 4);
        due("6 are more than 9 less 4", GreenJars.NONE, x.jar(0, 8));
        GreenJars y = Check.shelf("SJ00309J25309J40309");
        y.shake();
        due("the nearest one", 1, y.jar(0, 8));
        y.open(1);
        due("an open one hides nothing", 2, y.jar(0, 8));
    }

    private static void at() {
        GreenJars x = Check.shelf("SJ75301J00001");
        due("at 7", 0, x.at(7));
        due("at 0", 1, x.at(0));
        due("at 3", GreenJars.NONE, x.at(3));
        due("at -1", GreenJars.UNKNOWN, x.at(-1));
        due("at 8", GreenJars.UNKNOWN, x.at(8));
        x.open(0);
        due("an open jar's place is free", GreenJars.NONE, x.at(7));
        x.set(1, 7);
        due("another one stands there", 1, x.at(7));
    }
}
