/** Promises 1 to 8 at their edges, sentence by sentence: a new object, the text, the sale, what is told of it. */
public final class SaleEdgesTest {
    private static final Sentences S = new Sentences();
    private static final int UNKNOWN = -1, BAD = -2, LATE = -3, FULL = -4, NONE = -9;
    private static final String SIX = "SJ00001J10001J20001J30001J40001J50001";
    private static final String MOST = "SJ79339";
    private static final int NO_BYTE = -1;

    public static void main(String[] args) {
        newObject();
        write();
        wipe();
        faultAtEachByte();
        faultOfMore();
        sale();
        saleAnew();
        about();
        jar();
        at();
        S.end("SaleEdgesTest", 1, 8);
    }

    private static void newObject() {
        S.of(1, "an empty shelf");
        GreenJars x = new GreenJars();
        for (int what = 0; what <= 9; what++) {
            S.due("about " + what, 0, x.about(what));
        }
        for (int place = 0; place <= 7; place++) {
            S.due("at " + place, NONE, x.at(place));
        }
        S.of(1, "at first there are no JARS");
        S.due("jar", UNKNOWN, x.jar(0, 0));
        S.of(1, "no ACTS, nothing kept, nothing TASTED, THE SEED 0 at first");
        S.due("undo", LATE, x.undo());
        S.due("again 0", LATE, x.again(0));
        S.due("again 1", LATE, x.again(1));
        S.due("untaste", 0, x.untaste());
        S.due("kept", 40, x.kept(0));
        S.due("seed", 0, x.seed(3));
        S.due("wipe", 0, x.wipe());
        S.of(1, "each object is its own");
        String before = Shelves.lookAtAll(new GreenJars());
        GreenJars one = Shelves.full();
        S.same("a new object behind another one", before, Shelves.lookAtAll(new GreenJars()));
        S.same("an object ahead of another one", Shelves.lookAtAll(Shelves.full()), Shelves.lookAtAll(one));
    }

    private static void write() {
        S.of(2, "a byte (0 .. 255) comes behind THE TEXT: how long it is");
        GreenJars x = new GreenJars();
        int[] bytes = {0, 255, 1, 254, 128, 127};
        for (int k = 0; k < bytes.length; k++) {
            S.due("write " + bytes[k], k + 1, x.write(bytes[k]));
            S.due("bytes", k + 1, x.about(9));
        }
        S.of(2, "it comes behind THE TEXT, not ahead of it");
        S.due("SJ", 2, Check.written("SJ").fault());
        S.due("JS", 0, Check.written("JS").fault());
        S.of(2, "BAD: no byte");
        int[] none = {-1, 256, 'S' + 256, 'S' - 256, Integer.MIN_VALUE, Integer.MAX_VALUE};
        for (int letter : none) {
            S.keepsAll("write " + letter, BAD, y -> y.write(letter));
        }
        S.of(2, "FULL: there are 48");
        GreenJars y = Check.written(SIX + "0123456789");
        S.due("write no 48", 48, y.write(0));
        S.due("write no 49", FULL, y.write('S'));
        S.due("write no 49, 0", FULL, y.write(0));
        S.due("write no 49, 255", FULL, y.write(255));
        S.keeps("write no 49", FULL, Shelves::full, z -> z.write('J'));
        S.of(2, "what was full is not, when it is wiped");
        y.wipe();
        for (int k = 1; k <= 48; k++) {
            S.due("write no " + k, k, y.write('S'));
        }
        S.due("write no 49", FULL, y.write('S'));
        S.of(2, "BAD is told ahead of FULL");
        S.keeps("write 256 behind 48", BAD, Shelves::full, z -> z.write(256));
        S.keeps("write -1 behind 48", BAD, Shelves::full, z -> z.write(-1));
    }

    private static void wipe() {
        S.of(3, "THE TEXT is empty: how long it was");
        S.due("wipe of none", 0, new GreenJars().wipe());
        S.due("wipe of one", 1, Check.written("S").wipe());
        S.due("wipe of 47", 47, Check.written(SIX + "0123456789").wipe());
        GreenJars x = Shelves.full();
        S.due("wipe of 48", 48, x.wipe());
        S.due("bytes", 0, x.about(9));
        S.due("fault", 0, x.fault());
        S.due("sale", LATE, x.sale());
        S.due("wipe again", 0, x.wipe());
        S.of(3, "nothing is left of what was wiped");
        GreenJars y = Check.written(SIX);
        y.wipe();
        y.write('S');
        S.due("fault", NONE, y.fault());
        S.due("sale", 0, y.sale());
        y.write('J');
        S.due("fault behind J", 2, y.fault());
        y.write('0');
        S.due("the place is not told yet", 3, y.fault());
        S.of(3, "only THE TEXT is empty");
        GreenJars wiped = Shelves.half();
        wiped.wipe();
        S.same("acts", Shelves.lookAtActs(Shelves.half()), Shelves.lookAtActs(wiped));
        wiped = Shelves.half();
        wiped.wipe();
        S.due("jars", 3, wiped.about(0));
        S.due("tasted", 2, wiped.about(8));
        S.due("kept", 1, wiped.kept(1));
        S.due("seed", -5, wiped.seed(0));
        S.due("slot 1", 2, wiped.again(1));
    }

    /** Each of the 256 bytes at each place of S and of a jar: those that can be there, and all others. */
    private static void faultAtEachByte() {
        faultAt("S", "", "S", 1);
        faultAt("J", "S", "J", NO_BYTE);
        faultAt("PLACE p (0 .. 7)", "SJ", "01234567", NO_BYTE);
        faultAt("FLAVOUR f (0 .. 9)", "SJ7", "0123456789", NO_BYTE);
        faultAt("STUFF u (0 .. 3)", "SJ79", "0123", NO_BYTE);
        faultAt("KIND k (0 .. 3)", "SJ793", "0123", NO_BYTE);
        faultAt("SIZE s (1 .. 9)", "SJ7933", "123456789", 7);
        faultAt("a second J", MOST, "J", NO_BYTE);
        faultAt("a PLACE where none is told yet", MOST + "J", "0123456", NO_BYTE);
        faultAt("the sixth's J", "SJ79339J60001J50001J40001J30001", "J", NO_BYTE);
        faultAt("the sixth's PLACE", "SJ79339J60001J50001J40001J30001J", "012", NO_BYTE);
        faultAt("the sixth's SIZE", "SJ79339J60001J50001J40001J30001J0000", "123456789", 37);
        faultAt("nothing comes behind six", SIX, "", NO_BYTE);
    }

    private static void faultAt(String what, String ahead, String can, int whole) {
        S.of(4, "a SALE: " + what);
        for (int letter = 0; letter <= 255; letter++) {
            GreenJars x = Check.written(ahead);
            x.write(letter);
            int length = ahead.length() + 1;
            int behind = length == whole ? NONE : length;
            S.due("fault of " + ahead + " and " + letter, can.indexOf(letter) < 0 ? length - 1 : behind, x.fault());
        }
    }

    private static void faultOfMore() {
        S.of(4, "its length, if it is only not at its end");
        String sale = "SJ79339J60001J50001J40001J30001J00001";
        for (int length = 0; length <= sale.length(); length++) {
            int want = length % 6 == 1 ? NONE : length;
            S.due("fault of " + length + " bytes", want, Check.written(sale.substring(0, length)).fault());
        }
        S.of(4, "NONE: none");
        S.due("S", NONE, Check.written("S").fault());
        S.due("the least jar", NONE, Check.written("SJ00001").fault());
        S.due("the greatest jar", NONE, Check.written(MOST).fault());
        S.due("six", NONE, Check.written(SIX).fault());
        S.of(4, "the place of the first byte by which THE TEXT can be no SALE");
        S.due("two faults", 2, Check.written("SJ8X").fault());
        S.due("a fault, then rightly on", 1, Check.written("SXJ00001").fault());
        S.due("a fault at 0, 48 bytes", 0, Check.written("Z" + SIX + "0123456789").fault());
        S.due("a place told twice, and a fault", 8, Check.written(MOST + "J7X").fault());
        S.of(4, "a PLACE where none is told yet: of any JAR ahead, by its PLACE alone");
        S.due("the first one's", 14, Check.written("SJ00001J10001J0").fault());
        S.due("the second one's", 14, Check.written("SJ00001J10001J1").fault());
        S.due("the fifth one's", 32, Check.written("SJ00001J10001J20001J30001J40001J4").fault());
        S.due("a flavour is no place", NONE, Check.written("SJ03339J30001").fault());
        S.of(4, "JARS are 6 at most: the seventh's first byte is a FAULT");
        S.due("J", 37, Check.written(SIX + "J").fault());
        S.due("a whole seventh", 37, Check.written(SIX + "J60001").fault());
        S.due("48 bytes", 37, Check.written(SIX + "J60001J7000").fault());
        S.of(4, "fault changes nothing");
        S.keeps("fault", 0, GreenJars::new, GreenJars::fault);
        S.keeps("fault", NONE, Shelves::half, GreenJars::fault);
        S.keeps("fault", 37, Shelves::full, GreenJars::fault);
    }

    private static void sale() {
        S.of(5, "how many JARS");
        for (int jars = 0; jars <= 6; jars++) {
            GreenJars x = Check.written(SIX.substring(0, 1 + 6 * jars));
            S.due("sale of " + jars, jars, x.sale());
            S.due("jars", jars, x.about(0));
        }
        S.of(5, "JARS, numbered as they are told");
        GreenJars x = Check.shelf("SJ70001J09339J42213");
        int[][] told = {{7, 0, 0, 0, 1}, {0, 9, 3, 3, 9}, {4, 2, 2, 1, 3}};
        for (int jar = 0; jar < told.length; jar++) {
            for (int what = 0; what < 5; what++) {
                S.due("jar " + jar + ", " + what, told[jar][what], x.jar(jar, what));
            }
        }
        S.of(5, "LATE: a FAULT");
        S.keeps("sale of no text", LATE, GreenJars::new, GreenJars::sale);
        S.keeps("sale of 48 bytes", LATE, Shelves::full, GreenJars::sale);
        S.keeps("sale of a text not at its end", LATE, () -> halfAnd("J"), GreenJars::sale);
        S.keeps("sale of a text with a fault", LATE, () -> halfAnd("X"), GreenJars::sale);
        S.keeps("sale of a seventh jar", LATE, () -> Check.written(SIX + "J"), GreenJars::sale);
    }

    private static GreenJars halfAnd(String more) {
        GreenJars x = Shelves.half();
        for (int k = 0; k < more.length(); k++) {
            x.write(more.charAt(k));
        }
        return x;
    }

    private static GreenJars fullAnew(String text) {
        GreenJars x = Shelves.full();
        Check.rewrite(x, text);
        x.sale();
        return x;
    }

    private static void saleAnew() {
        S.of(5, "when THE SALE is made anew, all JARS are whole, LOOK out, have no HAZE, THE WEEK is 0");
        String text = "SJ05001J15109J27219J33329J46039J54309";
        GreenJars x = fullAnew(text);
        S.due("the week", 0, x.about(1));
        S.due("whole", 63, x.about(2));
        S.due("cracked", 0, x.about(3));
        S.due("open", 0, x.about(4));
        int[][] told = {{0, 5, 0, 0, 1}, {1, 5, 1, 0, 9}, {2, 7, 2, 1, 9}, {3, 3, 3, 2, 9}, {4, 6, 0, 3, 9}, {5, 4, 3, 0, 9}};
        for (int jar = 0; jar < 6; jar++) {
            for (int what = 0; what < 5; what++) {
                S.due("jar " + jar + ", " + what, told[jar][what], x.jar(jar, what));
            }
            S.due("haze of " + jar, 0, x.jar(jar, 5));
            S.due("look of " + jar, 1, x.jar(jar, 6));
            S.due("state of " + jar, 0, x.jar(jar, 7));
        }
        S.of(5, "no ACTS");
        S.due("acts", 0, x.about(7));
        S.due("undo", LATE, x.undo());
        x.week();
        S.due("undo of the first act anew", 0, x.undo());
        S.due("undo", LATE, x.undo());
        S.of(5, "what was kept in SLOTS is gone");
        S.due("again 0", LATE, x.again(0));
        S.due("again 1", LATE, x.again(1));
        S.of(5, "TASTED, THE SEED stay");
        S.due("tasted", 6, x.about(8));
        S.due("kept", 8, x.kept(0));
        S.due("the first", 22, x.kept(1));
        S.due("seed", 77, x.seed(0));
        S.of(5, "THE TEXT stays");
        S.due("bytes", 37, x.about(9));
        S.due("fault", NONE, x.fault());
        S.due("the same once more", 6, x.sale());
        S.of(5, "of more JARS nothing is left when fewer are told");
        GreenJars fewer = fullAnew("SJ49339");
        S.due("jars", 1, fewer.about(0));
        S.due("whole", 1, fewer.about(2));
        S.due("places", 16, fewer.about(5));
        S.due("jar 1", UNKNOWN, fewer.jar(1, 0));
        S.due("at 2", NONE, fewer.at(2));
        S.due("week", 9, fewer.week());
        S.due("shake", 0, fewer.shake());
        S.due("it sees none", NONE, fewer.jar(0, 8));
        S.due("row", 5, fewer.row(true));
        S.of(5, "a SALE of no JARS");
        GreenJars none = fullAnew("S");
        S.due("jars", 0, none.about(0));
        S.due("whole", 0, none.about(2));
        S.due("places", 0, none.about(5));
        S.due("jar 0", UNKNOWN, none.jar(0, 0));
        S.due("at 0", NONE, none.at(0));
        S.due("week", 0, none.week());
    }

    private static void about() {
        S.of(6, "JARS (0), THE WEEK (1), who is whole, CRACKED, OPEN (2, 3, 4), PLACES that are taken (5), PAIRS (6), "
            + "ACTS (7), TASTED (8), bytes of THE TEXT (9)");
        int[] full = {6, 8, 0b111100, 0b000001, 0b000010, 0b01011101, 0, 14, 6, 48};
        int[] half = {3, 2, 0b111, 0, 0, 0b10000110, 0, 4, 2, 19};
        for (int what = 0; what <= 9; what++) {
            S.due("about an empty one, " + what, 0, new GreenJars().about(what));
            S.due("about a half one, " + what, half[what], Shelves.half().about(what));
            S.due("about a full one, " + what, full[what], Shelves.full().about(what));
        }
        S.of(6, "bits by JARS: the sixth's is 32, by PLACES: the last one's is 128");
        GreenJars x = Check.shelf("SJ00009J10009J20009J30009J40009J70001");
        S.due("all places", 0b10011111, x.about(5));
        Check.weeks(x, 4);
        x.shake();
        S.due("cracked", 32, x.about(3));
        S.due("its place is taken", 0b10011111, x.about(5));
        x.undo();
        x.open(5);
        S.due("open", 32, x.about(4));
        S.due("its place is free", 0b00011111, x.about(5));
        S.due("whole", 31, x.about(2));
        S.of(6, "JARS are all that were told, whole or not");
        S.due("jars", 6, x.about(0));
        S.due("none whole", 3, Shelves.noneWhole().about(0));
        S.due("none whole, whole", 0, Shelves.noneWhole().about(2));
        pairs();
        S.of(6, "BAD");
        S.keepsAll("about -1", BAD, y -> y.about(-1));
        S.keepsAll("about 10", BAD, y -> y.about(10));
        S.keepsAll("about least", BAD, y -> y.about(Integer.MIN_VALUE));
        S.keepsAll("about most", BAD, y -> y.about(Integer.MAX_VALUE));
        S.of(6, "about changes nothing");
        S.keeps("about 6", 0, Shelves::full, y -> y.about(6));
        S.keeps("about 5", 0b10000110, Shelves::half, y -> y.about(5));
    }

    private static void pairs() {
        S.of(6, "PAIRS: how many pairs of JARS SEE one another now: none, up to three");
        S.due("none", 0, Check.shelf(SIX).about(6));
        S.due("one", 1, Shelves.turned("SJ05319J15309").about(6));
        S.due("two", 2, Shelves.turned("SJ05319J15309J45319J75309").about(6));
        S.due("three", 3, Shelves.turned("SJ05319J15309J25319J35309J45319J55309").about(6));
        S.due("told the other way round", 3, Shelves.turned("SJ55309J45319J35309J25319J15309J05319").about(6));
        S.of(6, "PAIRS: one that is SEEN and does not SEE makes none");
        GreenJars x = Check.shelf("SJ05309J15309");
        x.shake();
        S.due("it sees", 1, x.jar(0, 8));
        S.due("one alone sees", 0, x.about(6));
        S.due("both look away", 0, Shelves.turned("SJ05309J15319").about(6));
        S.of(6, "PAIRS: both must SEE, through the HAZE of both");
        GreenJars near = Shelves.turned("SJ05319J75309");
        S.due("7 places, haze 2 in all", 1, near.about(6));
        Check.weeks(near, 4);
        S.due("7 places, haze 6 in all", 0, near.about(6));
        GreenJars seer = Check.shelf("SJ05319J75329");
        Check.weeks(seer, 4);
        Check.shakes(seer, 3);
        Check.weeks(seer, 2);
        S.due("the seer sees", 0, seer.jar(1, 8));
        S.due("the other one does not", NONE, seer.jar(0, 8));
        S.due("a seer and one that does not see", 0, seer.about(6));
        seer.pour(0, 0);
        S.due("clear again", 1, seer.about(6));
        S.of(6, "PAIRS: a CRACKED one SEES none; it stays between, an OPEN one does not");
        GreenJars between = Check.shelf("SJ05319J15301J25309");
        Check.shakes(between, 3);
        Check.weeks(between, 6);
        S.due("a pair of the first two", 1, between.about(6));
        S.due("cracks", 1, between.shake());
        Check.shakes(between, 3);
        S.due("they look as they did", 2, between.jar(0, 6));
        S.due("cracked", 0, between.about(6));
        between.undo();
        between.undo();
        between.undo();
        between.undo();
        between.open(1);
        S.due("open", 1, between.about(6));
    }

    private static void jar() {
        S.of(7, "of a JAR its PLACE, FLAVOUR, STUFF, KIND, SIZE, HAZE, LOOK, 0 whole, the JAR that it SEES");
        int[][] told = {{0, 0, 0, 0, 1, 0, 1, 0, NONE}, {7, 9, 3, 3, 9, 0, 1, 0, NONE}};
        for (int what = 0; what <= 8; what++) {
            S.due("the least, " + what, told[0][what], Check.shelf("SJ00001J79339").jar(0, what));
            S.due("the greatest, " + what, told[1][what], Check.shelf("SJ00001J79339").jar(1, what));
        }
        S.of(7, "its PLACE: where it was, if it is OPEN");
        GreenJars x = Check.shelf("SJ05309J15309");
        x.set(0, 7);
        x.open(0);
        S.due("place", 7, x.jar(0, 0));
        x.set(1, 7);
        S.due("place, when another is there", 7, x.jar(0, 0));
        S.due("the other one's", 7, x.jar(1, 0));
        S.of(7, "HAZE 0 .. 9");
        GreenJars hazy = Check.shelf("SJ05309");
        for (int haze = 0; haze <= 9; haze++) {
            S.due("haze", haze, hazy.jar(0, 5));
            Check.weeks(hazy, 2);
        }
        S.of(7, "0 whole, 1 CRACKED, 2 OPEN");
        for (int jar = 0; jar <= 2; jar++) {
            S.due("jar " + jar, new int[] {1, 2, 0}[jar], Shelves.broken().jar(jar, 7));
        }
        seesByLook();
        seesNearest();
        seesThroughHaze();
        S.of(7, "UNKNOWN");
        S.keeps("jar 0 of none", UNKNOWN, GreenJars::new, y -> y.jar(0, 0));
        S.keeps("jar 3 of three", UNKNOWN, Shelves::half, y -> y.jar(3, 0));
        S.keeps("jar 6 of six", UNKNOWN, Shelves::full, y -> y.jar(6, 0));
        S.due("jar 5 of six", 6, Shelves.full().jar(5, 0));
        S.keepsAll("jar -1", UNKNOWN, y -> y.jar(-1, 0));
        S.keepsAll("jar least", UNKNOWN, y -> y.jar(Integer.MIN_VALUE, 8));
        S.keepsAll("jar most", UNKNOWN, y -> y.jar(Integer.MAX_VALUE, 8));
        S.of(7, "BAD");
        for (int what : new int[] {-1, 9, Integer.MIN_VALUE, Integer.MAX_VALUE}) {
            S.keeps("what " + what, BAD, Shelves::half, y -> y.jar(0, what));
            S.keeps("what " + what, BAD, Shelves::full, y -> y.jar(5, what));
        }
        S.of(7, "UNKNOWN is told ahead of BAD");
        S.keepsAll("jar -1, what 9", UNKNOWN, y -> y.jar(-1, 9));
        S.keepsAll("jar 6, what -1", UNKNOWN, y -> y.jar(6, -1));
        S.of(7, "jar changes nothing");
        S.keeps("jar", NONE, Shelves::full, y -> y.jar(1, 8));
    }

    private static void seesByLook() {
        S.of(7, "a whole JAR that LOOKS left, or right, SEES: out and back none");
        GreenJars x = Check.shelf("SJ15309J35309J55309");
        int[] middle = {NONE, 2, NONE, 0, NONE, 2};
        for (int k = 0; k < middle.length; k++) {
            S.due("the middle one sees, shaken " + k, middle[k], x.jar(1, 8));
            x.shake();
        }
        S.of(7, "PLACES are in a row, not round: beyond 0 and 7 there are none");
        GreenJars ends = Check.shelf("SJ05309J75309");
        ends.shake();
        S.due("to the right of 0", 1, ends.jar(0, 8));
        S.due("to the right of 7", NONE, ends.jar(1, 8));
        Check.shakes(ends, 2);
        S.due("to the left of 0", NONE, ends.jar(0, 8));
        S.due("to the left of 7", 0, ends.jar(1, 8));
        S.of(7, "a JAR alone SEES none");
        GreenJars alone = Check.shelf("SJ35329");
        for (int k = 0; k < 4; k++) {
            S.due("alone, shaken " + k, NONE, alone.jar(0, 8));
            alone.shake();
        }
        S.of(7, "only a whole JAR SEES");
        GreenJars y = Check.shelf("SJ05301J15309J25309");
        Check.weeks(y, 3);
        y.shake();
        S.due("it looks right and sees", 1, y.jar(0, 8));
        y.week();
        S.due("it cracks", 1, y.shake());
        S.due("it looks right still", 2, y.jar(0, 6));
        S.due("cracked, it sees none", NONE, y.jar(0, 8));
        y.undo();
        y.open(0);
        S.due("open, it sees none", NONE, y.jar(0, 8));
    }

    private static void seesNearest() {
        S.of(7, "SEES the nearest JAR that way");
        GreenJars x = Check.shelf("SJ75309J05309J35309J45309J65309J15309");
        int[] right = {NONE, 5, 3, 4, 0, 2};
        int[] left = {4, NONE, 5, 2, 3, 1};
        x.shake();
        for (int jar = 0; jar < 6; jar++) {
            S.due("to the right of " + jar, right[jar], x.jar(jar, 8));
        }
        Check.shakes(x, 2);
        for (int jar = 0; jar < 6; jar++) {
            S.due("to the left of " + jar, left[jar], x.jar(jar, 8));
        }
        S.of(7, "the nearest that is not OPEN");
        GreenJars open = Check.shelf("SJ05309J15309J25309");
        open.shake();
        open.open(1);
        S.due("behind an open one", 2, open.jar(0, 8));
        open.open(2);
        S.due("all are open", NONE, open.jar(0, 8));
        S.of(7, "the nearest, CRACKED or not");
        GreenJars cracked = Check.shelf("SJ05309J15301J25309");
        Check.weeks(cracked, 4);
        cracked.shake();
        S.due("a cracked one", 1, cracked.jar(0, 8));
        S.of(7, "if the nearest is too far, none is SEEN, whoever is behind it");
        GreenJars hazy = Check.shelf("SJ05309J15309J25329");
        Check.weeks(hazy, 18);
        hazy.shake();
        hazy.pour(0, 0);
        S.due("the nearest has haze 9", NONE, hazy.jar(0, 8));
        hazy.open(1);
        S.due("the seer behind it", 2, hazy.jar(0, 8));
    }

    /** Two plain ones in so much haze each; the first looks right, or the second left. */
    private static GreenJars inHaze(int away, int first, int second) {
        GreenJars x = Check.shelf("SJ05309J" + away + "5309");
        Check.weeks(x, 2 * Math.abs(first - second));
        if (first != second) {
            x.pour(first > second ? 1 : 0, 0);
        }
        Check.weeks(x, 2 * Math.min(first, second));
        return x;
    }

    private static void seesThroughHaze() {
        S.of(7, "if that is as many PLACES away as 9 less the HAZE of both, or fewer");
        for (int away = 1; away <= 7; away++) {
            for (int first = 0; first <= 9; first++) {
                for (int second = 0; second <= 9; second++) {
                    GreenJars x = inHaze(away, first, second);
                    boolean clear = away + first + second <= 9;
                    String call = away + " away in " + first + " and " + second;
                    x.shake();
                    S.due(call + ", to the right", clear ? 1 : NONE, x.jar(0, 8));
                    Check.shakes(x, 2);
                    S.due(call + ", to the left", clear ? 0 : NONE, x.jar(1, 8));
                }
            }
        }
        S.of(7, "a CRACKED one's HAZE is 0 there");
        GreenJars x = Check.shelf("SJ05309J55308");
        Check.weeks(x, 18);
        S.due("cracks", 1, x.shake());
        x.pour(0, 0);
        S.due("in 0 and 9, cracked", 1, x.jar(0, 8));
        Check.weeks(x, 8);
        S.due("5 away in 4", 1, x.jar(0, 8));
        Check.weeks(x, 2);
        S.due("5 away in 5", NONE, x.jar(0, 8));
        S.of(7, "a SEER: however far, in whatever HAZE");
        for (int away = 1; away <= 7; away++) {
            GreenJars seer = Check.shelf("SJ05329J" + away + "5309");
            Check.weeks(seer, 18);
            S.due("the other one's haze", 9, seer.jar(1, 5));
            seer.shake();
            S.due("to the right, " + away, 1, seer.jar(0, 8));
            Check.shakes(seer, 2);
            S.due("it is not seen", NONE, seer.jar(1, 8));
            GreenJars left = Check.shelf("SJ05309J" + away + "5329");
            Check.weeks(left, 18);
            Check.shakes(left, 3);
            S.due("to the left, " + away, 0, left.jar(1, 8));
        }
        S.of(7, "a SEER too SEES the nearest alone, and none when it LOOKS out or back");
        GreenJars seer = Check.shelf("SJ05329J15309J25309");
        S.due("out", NONE, seer.jar(0, 8));
        seer.shake();
        S.due("the nearest", 1, seer.jar(0, 8));
        seer.shake();
        S.due("back", NONE, seer.jar(0, 8));
    }

    private static void at() {
        S.of(8, "the JAR at a PLACE");
        GreenJars x = Check.shelf("SJ75309J05309J35309J45309J65309J15309");
        int[] at = {1, 5, NONE, 2, 3, NONE, 4, 0};
        for (int place = 0; place <= 7; place++) {
            S.due("at " + place, at[place], x.at(place));
        }
        S.of(8, "not OPEN; NONE");
        x.open(1);
        S.due("an open one's", NONE, x.at(0));
        x.set(0, 0);
        S.due("another one is there", 0, x.at(0));
        S.due("where that was", NONE, x.at(7));
        S.due("a cracked one's", 0, Shelves.broken().at(0));
        S.of(8, "UNKNOWN");
        for (int place : new int[] {-1, 8, NONE, Integer.MIN_VALUE, Integer.MAX_VALUE}) {
            S.keepsAll("at " + place, UNKNOWN, y -> y.at(place));
        }
        S.of(8, "at changes nothing");
        S.keeps("at", 0, Shelves::full, y -> y.at(0));
    }
}
