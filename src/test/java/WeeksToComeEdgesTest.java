/** Promises 15 to 21 at their edges, sentence by sentence: what is to be known of weeks to come, changing nothing. */
public final class WeeksToComeEdgesTest {
    private static final Sentences S = new Sentences();
    private static final int UNKNOWN = -1, BAD = -2, LATE = -3, NONE = -9;
    private static final int LEAST = Integer.MIN_VALUE, GREATEST = Integer.MAX_VALUE;
    private static final int[] NO_JAR = {-1, 6, NONE, LEAST, GREATEST};

    public static void main(String[] args) {
        laterFlavour();
        laterSees();
        laterRefused();
        becomes();
        fails();
        stuff();
        stuffRefused();
        rowOfFew();
        rowOfMany();
        judgeBad();
        judgeEach();
        judgeInTurn();
        share();
        shareOfNotWhole();
        S.end("WeeksToComeEdgesTest", 15, 21);
    }

    private static GreenJars aWeekOn(String text) {
        GreenJars x = Check.shelf(text);
        x.week();
        return x;
    }

    private static void laterFlavour() {
        S.of(15, "IN n WEEKS (0 .. 20): FLAVOUR of a JAR");
        GreenJars x = Check.shelf("SJ00009J19109J20209J39209J47309J50039");
        for (int n = 0; n <= 20; n++) {
            S.due("syrup in " + n, Math.min(n, 9), x.later(0, n, 0));
            S.due("vinegar in " + n, Math.max(9 - n, 0), x.later(1, n, 0));
            S.due("brandy from 0 in " + n, Math.min(n, 5), x.later(2, n, 0));
            S.due("brandy from 9 in " + n, Math.max(9 - n, 5), x.later(3, n, 0));
            S.due("brine in " + n, 7, x.later(4, n, 0));
            S.due("a colonel from an even week in " + n, Math.min((n + 1) / 2, 9), x.later(5, n, 0));
        }
        S.of(15, "WEEKS to come are odd and even by THE WEEK that is now");
        GreenJars odd = Check.shelf("SJ05309J10339");
        odd.week();
        odd.pour(1, 0);
        for (int n = 0; n <= 20; n++) {
            S.due("a colonel from an odd week in " + n, Math.min(n / 2, 9), odd.later(1, n, 0));
        }
        S.of(15, "the FLAVOUR of one that is not whole: as it is");
        for (int n = 0; n <= 20; n += 10) {
            S.due("cracked, in " + n, 7, Shelves.broken().later(0, n, 0));
            S.due("open, in " + n, 8, Shelves.broken().later(1, n, 0));
        }
    }

    private static void laterSees() {
        S.of(15, "IN n WEEKS whom it SEES, by the LOOK and the HAZE that are then; NONE");
        GreenJars near = Check.shelf("SJ05319J15309");
        GreenJars far = Check.shelf("SJ05319J75309");
        GreenJars seen = Check.shelf("SJ05319J35329");
        for (int n = 0; n <= 20; n++) {
            boolean right = n % 4 == 1;
            S.due("1 away in " + n, right && n <= 9 ? 1 : NONE, near.later(0, n, 1));
            S.due("7 away in " + n, right && n <= 3 ? 1 : NONE, far.later(0, n, 1));
            S.due("3 away, a seer, in " + n, right && n <= 13 ? 1 : NONE, seen.later(0, n, 1));
            S.due("one that does not turn, in " + n, NONE, near.later(1, n, 1));
        }
        S.of(15, "IN 20 WEEKS a SEER SEES in whatever HAZE");
        GreenJars seer = Check.shelf("SJ05329J75309");
        seer.shake();
        S.due("in 0", 1, seer.later(0, 0, 1));
        S.due("in 20", 1, seer.later(0, 20, 1));
        S.of(15, "one that is not whole SEES none, in whatever WEEKS");
        GreenJars y = Check.shelf("SJ05301J15309J25309");
        y.shake();
        Check.weeks(y, 4);
        S.due("it sees, in 0", 1, y.later(0, 0, 1));
        y.shake();
        S.due("cracked, in 0", NONE, y.later(0, 0, 1));
        S.due("cracked, in 1", NONE, y.later(0, 1, 1));
        y.undo();
        y.open(0);
        S.due("open, in 0", NONE, y.later(0, 0, 1));
        S.due("open, in 20", NONE, y.later(0, 20, 1));
    }

    private static void laterRefused() {
        S.of(15, "nothing is changed by it");
        S.keeps("later", 9, Shelves::half, x -> x.later(0, 20, 0));
        S.keeps("later", NONE, Shelves::full, x -> x.later(4, 19, 1));
        S.of(15, "UNKNOWN");
        S.keeps("jar 0 of none", UNKNOWN, GreenJars::new, x -> x.later(0, 0, 0));
        S.keeps("jar 3 of three", UNKNOWN, Shelves::half, x -> x.later(3, 0, 0));
        for (int jar : NO_JAR) {
            S.keepsAll("jar " + jar, UNKNOWN, x -> x.later(jar, 1, 0));
        }
        S.of(15, "BAD: n, what");
        for (int n : new int[] {-1, 21, LEAST, GREATEST}) {
            S.keeps("n " + n, BAD, Shelves::half, x -> x.later(0, n, 0));
            S.keeps("n " + n + ", an open one", BAD, Shelves::full, x -> x.later(1, n, 1));
        }
        for (int what : new int[] {-1, 2, LEAST, GREATEST}) {
            S.keeps("what " + what, BAD, Shelves::half, x -> x.later(2, 0, what));
            S.keeps("what " + what + ", a cracked one", BAD, Shelves::full, x -> x.later(0, 20, what));
        }
        S.of(15, "UNKNOWN is told ahead of BAD");
        S.keepsAll("jar 6, n 21, what 2", UNKNOWN, x -> x.later(6, 21, 2));
        S.keepsAll("jar -1, n -1, what 0", UNKNOWN, x -> x.later(-1, -1, 0));
    }

    private static void becomes() {
        S.of(16, "in how many WEEKS (0 .. 20) the FLAVOUR of a whole JAR is v (0 .. 9) first; NONE");
        GreenJars x = Check.shelf("SJ00009J19109J20209J39209J47309J50039");
        for (int v = 0; v <= 9; v++) {
            S.due("syrup, " + v, v, x.becomes(0, v));
            S.due("vinegar, " + v, 9 - v, x.becomes(1, v));
            S.due("brandy from 0, " + v, v <= 5 ? v : NONE, x.becomes(2, v));
            S.due("brandy from 9, " + v, v >= 5 ? 9 - v : NONE, x.becomes(3, v));
            S.due("brine, " + v, v == 7 ? 0 : NONE, x.becomes(4, v));
            S.due("a colonel from an even week, " + v, v == 0 ? 0 : 2 * v - 1, x.becomes(5, v));
        }
        GreenJars odd = aWeekOn("SJ00339");
        odd.pour(0, 0);
        for (int v = 0; v <= 9; v++) {
            S.due("a colonel from an odd week, " + v, 2 * v, odd.becomes(0, v));
        }
        S.of(16, "what was is not what becomes");
        S.due("syrup never goes back", NONE, Check.shelf("SJ05009").becomes(0, 4));
        S.due("vinegar neither", NONE, Check.shelf("SJ05109").becomes(0, 6));
        S.of(16, "nothing is changed by it");
        S.keeps("becomes", NONE, Shelves::half, y -> y.becomes(0, 0));
        S.keeps("becomes", 0, Shelves::full, y -> y.becomes(5, 4));
        S.of(16, "UNKNOWN");
        S.keeps("jar 0 of none", UNKNOWN, GreenJars::new, y -> y.becomes(0, 0));
        S.keeps("jar 3 of three", UNKNOWN, Shelves::half, y -> y.becomes(3, 0));
        for (int jar : NO_JAR) {
            S.keepsAll("jar " + jar, UNKNOWN, y -> y.becomes(jar, 5));
        }
        S.of(16, "BAD: v");
        for (int v : new int[] {-1, 10, NONE, LEAST, GREATEST}) {
            S.keeps("v " + v, BAD, Shelves::half, y -> y.becomes(0, v));
            S.keeps("v " + v, BAD, Shelves::full, y -> y.becomes(5, v));
        }
        S.of(16, "LATE: it is not whole");
        S.keeps("cracked", LATE, Shelves::broken, y -> y.becomes(0, 7));
        S.keeps("open", LATE, Shelves::broken, y -> y.becomes(1, 8));
        S.of(16, "UNKNOWN is told ahead of BAD, BAD ahead of LATE");
        S.keepsAll("jar 6, v 10", UNKNOWN, y -> y.becomes(6, 10));
        S.keeps("cracked, v 10", BAD, Shelves::broken, y -> y.becomes(0, 10));
        S.keeps("open, v -1", BAD, Shelves::broken, y -> y.becomes(1, -1));
    }

    private static void fails() {
        S.of(17, "in how many WEEKS (0 .. 20) a whole JAR would be CRACKED first, if it was SHAKEN then; NONE");
        for (int kind : new int[] {0, 1, 3}) {
            for (int size = 1; size <= 9; size++) {
                String text = "SJ053" + kind + size;
                int even = size == 9 ? NONE : 2 * size + 2;
                int odd = size == 9 ? NONE : 2 * size + 1;
                S.due("kind " + kind + ", size " + size + ", from an even week", even, Check.shelf(text).fails(0));
                S.due("kind " + kind + ", size " + size + ", from an odd week", odd, aWeekOn(text).fails(0));
            }
        }
        S.of(17, "a SEER never would be");
        for (int size = 1; size <= 9; size++) {
            S.due("size " + size, NONE, Check.shelf("SJ0532" + size).fails(0));
        }
        S.of(17, "0, if it would be CRACKED now");
        GreenJars x = Check.shelf("SJ05301J15302");
        Check.weeks(x, 3);
        S.due("haze as size", 1, x.fails(0));
        x.week();
        S.due("haze beyond size", 0, x.fails(0));
        S.due("the other one, haze as size", 2, x.fails(1));
        Check.weeks(x, 9);
        S.due("long beyond", 0, x.fails(0));
        S.of(17, "POURED, its HAZE begins anew");
        x.pour(0, 0);
        S.due("poured in an odd week", 3, x.fails(0));
        S.of(17, "nothing is changed by it");
        S.keeps("fails", 4, Shelves::half, y -> y.fails(0));
        S.keeps("fails", NONE, Shelves::full, y -> y.fails(5));
        S.of(17, "UNKNOWN");
        S.keeps("jar 0 of none", UNKNOWN, GreenJars::new, y -> y.fails(0));
        S.keeps("jar 3 of three", UNKNOWN, Shelves::half, y -> y.fails(3));
        for (int jar : NO_JAR) {
            S.keepsAll("jar " + jar, UNKNOWN, y -> y.fails(jar));
        }
        S.of(17, "LATE: it is not whole");
        S.keeps("cracked", LATE, Shelves::broken, y -> y.fails(0));
        S.keeps("open", LATE, Shelves::broken, y -> y.fails(1));
    }

    private static void stuffIs(GreenJars x, int n, int v, int which, int near) {
        S.due("which for n " + n + ", v " + v, which, x.stuff(0, n, v, 0));
        S.due("how near for n " + n + ", v " + v, near, x.stuff(0, n, v, 1));
    }

    private static void stuff() {
        S.of(18, "the STUFF by which its FLAVOUR behind n (1 .. 12) WEEKS is nearest to v (0 .. 9): which; how near");
        GreenJars x = Check.shelf("SJ04109");
        // Behind 1 week: 5, 3, 5, 4; behind 12: 9, 0, 5, 4.
        int[] oneWhich = {1, 1, 1, 1, 3, 0, 0, 0, 0, 0};
        int[] oneNear = {3, 2, 1, 0, 0, 0, 1, 2, 3, 4};
        int[] twelveWhich = {1, 1, 1, 3, 3, 2, 2, 0, 0, 0};
        int[] twelveNear = {0, 1, 2, 1, 0, 0, 1, 2, 1, 0};
        for (int v = 0; v <= 9; v++) {
            stuffIs(x, 1, v, oneWhich[v], oneNear[v]);
            stuffIs(x, 12, v, twelveWhich[v], twelveNear[v]);
        }
        S.of(18, "of like ones the least");
        stuffIs(Check.shelf("SJ09309"), 3, 9, 0, 0);
        stuffIs(Check.shelf("SJ00309"), 3, 0, 1, 0);
        stuffIs(Check.shelf("SJ05309"), 3, 5, 2, 0);
        stuffIs(Check.shelf("SJ06309"), 3, 6, 3, 0);
        stuffIs(Check.shelf("SJ05309"), 1, 9, 0, 3);
        stuffIs(Check.shelf("SJ09109"), 4, 5, 1, 0);
        stuffIs(Check.shelf("SJ01309"), 4, 5, 0, 0);
        S.of(18, "POURED now, or left, if it is that: the same for each that it is in");
        for (int in = 0; in <= 3; in++) {
            GreenJars y = Check.shelf("SJ07" + in + "09");
            stuffIs(y, 2, 9, 0, 0);
            stuffIs(y, 3, 4, 1, 0);
            stuffIs(y, 5, 5, 2, 0);
            stuffIs(y, 5, 7, 3, 0);
        }
        S.of(18, "a COLONEL's, by even WEEKS alone");
        GreenJars even = Check.shelf("SJ00339");
        stuffIs(even, 1, 9, 0, 8);
        stuffIs(even, 2, 9, 0, 8);
        stuffIs(even, 3, 9, 0, 7);
        stuffIs(even, 12, 9, 0, 3);
        GreenJars odd = aWeekOn("SJ00339");
        stuffIs(odd, 1, 9, 0, 9);
        stuffIs(odd, 2, 9, 0, 8);
        stuffIs(odd, 11, 9, 0, 4);
        S.of(18, "another JAR's WEEKS do not matter, each is asked for by itself");
        GreenJars two = Check.shelf("SJ00309J19309");
        S.due("the first one's", 9 - 3, two.stuff(0, 3, 9, 1));
        S.due("the second one's", 6, two.stuff(1, 3, 0, 1));
    }

    private static void stuffRefused() {
        S.of(18, "nothing is changed by it");
        S.keeps("stuff", 1, Shelves::half, x -> x.stuff(0, 12, 0, 0));
        S.keeps("stuff", 4, Shelves::full, x -> x.stuff(5, 1, 9, 1));
        S.of(18, "UNKNOWN");
        S.keeps("jar 0 of none", UNKNOWN, GreenJars::new, x -> x.stuff(0, 1, 0, 0));
        S.keeps("jar 3 of three", UNKNOWN, Shelves::half, x -> x.stuff(3, 1, 0, 0));
        for (int jar : NO_JAR) {
            S.keepsAll("jar " + jar, UNKNOWN, x -> x.stuff(jar, 1, 5, 0));
        }
        S.of(18, "BAD: n, v, what");
        for (int n : new int[] {0, 13, -1, LEAST, GREATEST}) {
            S.keeps("n " + n, BAD, Shelves::half, x -> x.stuff(0, n, 5, 0));
        }
        for (int v : new int[] {-1, 10, LEAST, GREATEST}) {
            S.keeps("v " + v, BAD, Shelves::half, x -> x.stuff(0, 1, v, 1));
        }
        for (int what : new int[] {-1, 2, LEAST, GREATEST}) {
            S.keeps("what " + what, BAD, Shelves::half, x -> x.stuff(0, 12, 9, what));
        }
        S.of(18, "LATE: it is not whole");
        S.keeps("cracked", LATE, Shelves::broken, x -> x.stuff(0, 1, 0, 0));
        S.keeps("open", LATE, Shelves::broken, x -> x.stuff(1, 12, 9, 1));
        S.of(18, "UNKNOWN is told ahead of BAD, BAD ahead of LATE");
        S.keepsAll("jar 6, n 0", UNKNOWN, x -> x.stuff(6, 0, 5, 0));
        S.keepsAll("jar -1, v 10, what 2", UNKNOWN, x -> x.stuff(-1, 1, 10, 2));
        S.keeps("cracked, n 13", BAD, Shelves::broken, x -> x.stuff(0, 13, 5, 0));
        S.keeps("open, v -1", BAD, Shelves::broken, x -> x.stuff(1, 1, -1, 0));
        S.keeps("open, what 2", BAD, Shelves::broken, x -> x.stuff(1, 1, 0, 2));
    }

    private static void rowIs(String what, GreenJars x, int pairs, int way) {
        S.due("pairs, " + what, pairs, x.row(false));
        S.due("the way, " + what, way, x.row(true));
    }

    private static void rowOfFew() {
        S.of(19, "how many PAIRS; the way (0: there are none)");
        rowIs("nobody", new GreenJars(), 0, 0);
        rowIs("none whole", Shelves.noneWhole(), 0, 0);
        S.of(19, "figures by JARS that are whole, PLACE and 1: of one");
        for (int place = 0; place <= 7; place++) {
            rowIs("one at " + place, Check.shelf("SJ" + place + "5309"), 0, place + 1);
        }
        S.of(19, "only PLACES where whole ones are now");
        rowIs("one is cracked, one open", Shelves.broken(), 0, 3);
        rowIs("free places are not used", Shelves.turned("SJ35309J65319"), 1, 74);
        S.of(19, "of like ones the least");
        rowIs("all look out", Check.shelf("SJ75309J05309J45309"), 0, 158);
        rowIs("six look out", Check.shelf("SJ75309J65309J55309J45309J35309J25309"), 0, 345678);
        rowIs("they see one another either way", Shelves.turned("SJ45319J75309J25319"), 1, 358);
        S.of(19, "LOOKS as they are");
        rowIs("both look left", shaken("SJ05309J15309", 3), 0, 12);
        rowIs("both look right", shaken("SJ05309J15309", 1), 0, 12);
        rowIs("right and left", Shelves.turned("SJ05319J15309"), 1, 12);
        rowIs("left and right", Shelves.turned("SJ05309J15319"), 1, 21);
        S.of(19, "HAZE goes with the JARS: who is too far is no PAIR");
        GreenJars far = Shelves.turned("SJ05309J75319");
        rowIs("7 away in 1 and 1", far, 1, 81);
        Check.weeks(far, 4);
        rowIs("7 away in 3 and 3", far, 0, 18);
        far.pour(0, 0);
        rowIs("7 away in 0 and 3", far, 0, 18);
        far.pour(1, 0);
        rowIs("7 away in 0 and 0", far, 1, 81);
    }

    private static GreenJars shaken(String text, int times) {
        GreenJars x = Check.shelf(text);
        Check.shakes(x, times);
        return x;
    }

    private static void rowOfMany() {
        S.of(19, "most PAIRS: three, of six");
        rowIs("turners first", Shelves.turned("SJ55319J45319J35319J25309J15309J05309"), 3, 135246);
        rowIs("turners last", Shelves.turned("SJ05309J15309J25309J35319J45319J55319"), 3, 246135);
        rowIs("as they are", Shelves.turned("SJ05319J15309J25319J35309J45319J55309"), 3, 123456);
        rowIs("the last places", Shelves.turned("SJ75319J65319J55319J45309J35309J25309"), 3, 357468);
        S.of(19, "most PAIRS: no more than those who LOOK right, or left");
        rowIs("one looks right", Shelves.turned("SJ05309J15309J25309J35309J45309J55319"), 1, 123465);
        rowIs("two look right", Shelves.turned("SJ05309J15309J25309J35309J45319J55319"), 2, 124635);
        rowIs("five", Shelves.turned("SJ05309J15319J25309J35319J45309"), 2, 12345);
        S.of(19, "CRACKED ones stay, and stand between");
        GreenJars x = Check.shelf("SJ05309J35319J15301J55309");
        Check.weeks(x, 4);
        Check.shakes(x, 3);
        Check.weeks(x, 2);
        S.due("cracked", 0b100, x.about(3));
        rowIs("one is cracked at 1", x, 1, 146);
        x.open(3);
        rowIs("one is open besides", x, 0, 14);
        S.of(19, "an OPEN one stands between no more");
        GreenJars y = Shelves.turned("SJ05309J35319J15309");
        y.open(2);
        rowIs("opened between", y, 1, 41);
        S.of(19, "nothing is changed by it");
        S.keeps("row", 0, Shelves::full, z -> z.row(false));
        S.keeps("row", 3457, Shelves::full, z -> z.row(true));
        S.keeps("row", 81, () -> Shelves.turned("SJ05309J75319"), z -> z.row(true));
        S.keeps("row", 0, GreenJars::new, z -> z.row(true));
    }

    private static void judgeBad() {
        S.of(20, "BAD: n (1 .. 4)");
        for (int n : new int[] {0, 5, -1, LEAST, GREATEST}) {
            S.keepsAll("n " + n, BAD, x -> x.judge(n, 0));
        }
        S.of(20, "BAD: row (0 or more)");
        for (int n = 1; n <= 4; n++) {
            int doings = n;
            S.keepsAll("n " + n + ", row -1", BAD, x -> x.judge(doings, -1));
            S.keepsAll("n " + n + ", row least", BAD, x -> x.judge(doings, Long.MIN_VALUE));
            S.keepsAll("n " + n + ", row 0", NONE, x -> x.judge(doings, 0));
        }
        S.of(20, "BAD: row (3 n figures at most)");
        long beyond = 1;
        for (int n = 1; n <= 4; n++) {
            beyond *= 1000;
            int doings = n;
            long more = beyond;
            S.keepsAll("n " + n + ", row " + (more - 1), 0, x -> x.judge(doings, more - 1));
            S.keepsAll("n " + n + ", row " + more, BAD, x -> x.judge(doings, more));
            S.keepsAll("n " + n + ", row most", BAD, x -> x.judge(doings, Long.MAX_VALUE));
        }
        // Cut to 32 bits these rows would be right ones.
        S.keepsAll("row 2^32", BAD, x -> x.judge(1, 1L << 32));
        S.keepsAll("row 2^32 and 100", BAD, x -> x.judge(2, (1L << 32) + 100));
        S.keepsAll("row 2^62", BAD, x -> x.judge(4, 1L << 62));
    }

    /** Jar 0 cracked at 0, jar 1 open at 1, jar 2 whole at 2 looks right at jar 3, whole at 7, who looks right too. */
    private static GreenJars judged() {
        GreenJars x = Check.shelf("SJ05301J15309J22109J78309");
        Check.weeks(x, 4);
        x.pour(3, 2);
        x.pour(3, 3);
        x.shake();
        x.open(1);
        return x;
    }

    /** All thousand doings by themselves: those that can be, or are so, stand here. */
    private static void judgeEach() {
        S.of(20, "each doing, told as three figures: those that can be (or are so), and no other ones");
        String can = " 000 100 "
            + "221 223 224 225 226 231 233 234 235 236 "
            + "320 322 323 330 331 332 "
            + "402 403 523 620 638 ";
        for (int doing = 0; doing <= 999; doing++) {
            String told = String.valueOf(1000 + doing).substring(1);
            boolean so = can.contains(" " + told + " ");
            S.due("doing " + told, so ? NONE : 0, judged().judge(1, doing));
        }
        S.of(20, "where there are no JARS, only WEEKS and SHAKEN can be");
        for (int doing = 0; doing <= 999; doing++) {
            S.due("doing " + doing, doing == 0 || doing == 100 ? NONE : 0, new GreenJars().judge(1, doing));
        }
    }

    private static void judgeInTurn() {
        S.of(20, "the place of the first that can not be (or is not so)");
        GreenJars x = Check.shelf("SJ05009J25109");
        S.due("the first of four", 0, x.judge(4, 700700700700L));
        S.due("the second", 1, x.judge(4, 100700700700L));
        S.due("the third", 2, x.judge(4, 100100700700L));
        S.due("the fourth", 3, x.judge(4, 100100100700L));
        S.due("none", NONE, x.judge(4, 100100100100L));
        S.due("the second of two", 1, x.judge(2, 100700));
        S.due("the third of three", 2, x.judge(3, 100100700));
        S.of(20, "figures ahead that are not told are 0: A WEEK");
        S.due("a week, then its flavour", NONE, x.judge(2, 606));
        S.due("three weeks, then its flavour", NONE, x.judge(4, 608));
        S.due("not so behind two", 2, x.judge(3, 608));
        S.of(20, "each is done where those ahead have been done");
        S.due("set, and set back", NONE, x.judge(2, 207200));
        S.due("set twice to one place", 1, x.judge(2, 207207));
        S.due("set where the other one was", NONE, x.judge(2, 217202));
        S.due("poured, and back", NONE, x.judge(2, 301300));
        S.due("poured, a week, its flavour", NONE, x.judge(3, 301000604));
        S.due("opened, and set there", NONE, x.judge(2, 401202));
        S.due("opened, and no flavour is told of it", 1, x.judge(2, 400605));
        S.due("opened twice", 1, x.judge(2, 400400));
        S.due("opened, then seen", 2, x.judge(3, 401100501));
        S.due("shaken, then seen", NONE, x.judge(2, 100501));
        S.due("shaken thrice, then seen", NONE, x.judge(4, 100100100510L));
        S.due("not seen ahead of it", 0, x.judge(2, 501100));
        S.of(20, "A WEEK and SHAKEN, as they are: HAZE, CRACKED, odd and even");
        GreenJars small = Check.shelf("SJ02331J15309");
        Check.weeks(small, 2);
        small.pour(0, 0);
        S.due("a colonel's in an even week", NONE, small.judge(2, 603));
        S.due("not in an odd one", NONE, small.judge(3, 603));
        small.undo();
        S.due("cracked behind two weeks more", 3, small.judge(4, 100602));
        S.due("not behind one", NONE, small.judge(3, 100602));
        S.due("a cracked one's place is taken", 3, small.judge(4, 100210));
        S.of(20, "nothing is changed by it");
        S.keeps("judge", NONE, Shelves::half, y -> y.judge(4, 100000310402L));
        S.keeps("judge", 3, Shelves::full, y -> y.judge(4, 100257403700L));
        S.keeps("judge", NONE, GreenJars::new, y -> y.judge(4, 100100L));
    }

    private static void shareIs(GreenJars x, int jar, int above, int below) {
        S.due("share of " + jar + ", above", above, x.share(jar, true));
        S.due("share of " + jar + ", below", below, x.share(jar, false));
    }

    private static void share() {
        S.of(21, "a FRACTION: of none SEEN it is 0, below 1");
        shareIs(Check.shelf("SJ05309"), 0, 0, 1);
        GreenJars out = Check.shelf("SJ05309J15309J25309J35309J45309J55309");
        for (int jar = 0; jar < 6; jar++) {
            shareIs(out, jar, 0, 1);
        }
        S.of(21, "JARS come one by one, in each order as likely: in the mean");
        GreenJars two = shaken("SJ05309J75309", 1);
        shareIs(two, 0, 1, 2);
        shareIs(two, 1, 1, 2);
        GreenJars facing = Shelves.turned("SJ05319J15309");
        shareIs(facing, 0, 1, 1);
        shareIs(facing, 1, 1, 1);
        S.of(21, "of six, who all LOOK right: each is SEEN, but for whoever is leftmost");
        // With k that have come, k - 1 are seen: all come alike, but the first adds none.
        out.shake();
        for (int jar = 0; jar < 6; jar++) {
            shareIs(out, jar, 5, 6);
        }
        S.of(21, "JARS that are SEEN by any, each once");
        // Jar 1 is seen by either of the others or by both, but hides them: without it they see one another.
        GreenJars both = Shelves.turned("SJ05319J15339J25309");
        shareIs(both, 0, 1, 2);
        shareIs(both, 1, 0, 1);
        shareIs(both, 2, 1, 2);
        S.of(21, "less than 0, if they are, is told above");
        GreenJars hazy = hazyBetween();
        shareIs(hazy, 0, 1, 3);
        shareIs(hazy, 1, -2, 3);
        shareIs(hazy, 2, 1, 3);
        S.of(21, "others are not there: they do not stand between");
        GreenJars far = shaken("SJ05309J15309J75339", 1);
        shareIs(far, 0, 2, 3);
        shareIs(far, 1, 2, 3);
        shareIs(far, 2, 2, 3);
        S.of(21, "UNKNOWN");
        S.keeps("jar 0 of none", UNKNOWN, GreenJars::new, x -> x.share(0, true));
        S.keeps("jar 3 of three", UNKNOWN, Shelves::half, x -> x.share(3, false));
        for (int jar : NO_JAR) {
            S.keepsAll("jar " + jar, UNKNOWN, x -> x.share(jar, true));
            S.keepsAll("jar " + jar, UNKNOWN, x -> x.share(jar, false));
        }
        S.of(21, "nothing is changed by it");
        S.keeps("share", 1, Shelves::half, x -> x.share(2, true));
        S.keeps("share", 1, Shelves::full, x -> x.share(1, false));
    }

    /** Jars 0 and 2 look at one another, clear; jar 1 between them is in haze 9 or more, and looks left. */
    private static GreenJars hazyBetween() {
        GreenJars x = Check.shelf("SJ05319J15309J25309");
        Check.weeks(x, 20);
        Check.shakes(x, 3);
        Check.weeks(x, 2);
        x.pour(0, 0);
        x.pour(2, 0);
        return x;
    }

    private static void shareOfNotWhole() {
        S.of(21, "an OPEN one has none, and changes no other one's");
        GreenJars x = shaken("SJ05309J15309J25309", 1);
        x.open(1);
        shareIs(x, 0, 1, 2);
        shareIs(x, 1, 0, 1);
        shareIs(x, 2, 1, 2);
        S.of(21, "a CRACKED one comes too: it is SEEN, and SEES none");
        GreenJars y = Check.shelf("SJ05309J15301J25309");
        Check.weeks(y, 4);
        y.shake();
        // Jar 0 sees 1, or 2, if 1 has not come; nobody else sees.
        shareIs(y, 0, 2, 3);
        shareIs(y, 1, 1, 6);
        shareIs(y, 2, 1, 6);
    }
}
