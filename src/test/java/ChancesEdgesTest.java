import java.math.BigInteger;

/** Promises 25 to 28 at their edges, sentence by sentence: rests, papers, the seed, years. */
public final class ChancesEdgesTest {
    private static final Sentences S = new Sentences();
    private static final int UNKNOWN = -1, BAD = -2, LATE = -3, NONE = -9;
    private static final int LEAST = Integer.MIN_VALUE, GREATEST = Integer.MAX_VALUE;
    private static final int[] NO_JAR = {-1, 6, NONE, LEAST, GREATEST};
    private static final BigInteger TIMES = new BigInteger("6364136223846793005");
    private static final BigInteger MORE = new BigInteger("1442695040888963407");
    private static final BigInteger ROUND = BigInteger.ONE.shiftLeft(64);

    public static void main(String[] args) {
        rests();
        restsThroughHaze();
        restsRefused();
        papersOfFew();
        papersOfMany();
        papersRefused();
        seed();
        yearsSeed();
        yearsPour();
        yearsShakeAndWeek();
        yearsTogether();
        yearsRefused();
        S.end("ChancesEdgesTest", 25, 28);
    }

    private static void restsAre(String what, GreenJars x, int one, int other, int first) {
        S.due("how many, " + what, 1, x.rests(one, other, 0));
        S.due("the first, " + what, first, x.rests(one, other, 1));
    }

    private static void rests() {
        S.of(25, "each has 3, if it SEES the other one: both turn to one another (10 times the one and the other)");
        for (int left = 0; left <= 6; left++) {
            for (int right = left + 1; right <= 7; right++) {
                GreenJars x = Check.shelf("SJ" + left + "5309J" + right + "5309");
                restsAre("at " + left + " and " + right, x, 0, 1, 20);
                restsAre("at " + right + " and " + left, x, 1, 0, 2);
            }
        }
        S.of(25, "1 more, if it LOOKS out: who can not SEE the other one LOOKS out");
        GreenJars three = Check.shelf("SJ05309J15309J25309");
        restsAre("one stands between", three, 0, 2, 11);
        restsAre("one stands between, the other way", three, 2, 0, 11);
        S.of(25, "a CRACKED one between hides, an OPEN one does not");
        GreenJars cracked = Check.shelf("SJ05309J15301J25309");
        Check.weeks(cracked, 4);
        cracked.shake();
        restsAre("a cracked one between", cracked, 0, 2, 11);
        three.open(1);
        restsAre("an open one between", three, 0, 2, 20);
        S.of(25, "each is turned to a LOOK, of whatever KIND, however it LOOKS now");
        for (int kind = 0; kind <= 3; kind++) {
            GreenJars x = Check.shelf("SJ35309J553" + kind + "9");
            for (int k = 0; k < 4; k++) {
                restsAre("kind " + kind + ", shaken " + k, x, 0, 1, 20);
                restsAre("kind " + kind + ", shaken " + k + ", the other way", x, 1, 0, 2);
                x.shake();
            }
        }
    }

    private static void restsThroughHaze() {
        S.of(25, "SEES as far as the HAZE of both lets it");
        GreenJars x = Check.shelf("SJ05309J75309J15309");
        x.open(2);
        Check.weeks(x, 2);
        restsAre("7 away in 1 and 1", x, 0, 1, 20);
        Check.weeks(x, 2);
        restsAre("7 away in 2 and 2", x, 0, 1, 11);
        x.pour(0, 0);
        restsAre("7 away in 0 and 2", x, 0, 1, 20);
        Check.weeks(x, 2);
        restsAre("7 away in 1 and 3", x, 0, 1, 11);
        S.of(25, "neither has more by another LOOK alone: a SEER turns to one who can not SEE it");
        GreenJars seer = Check.shelf("SJ05329J75309");
        Check.weeks(seer, 18);
        restsAre("the seer on the left", seer, 0, 1, 21);
        restsAre("the seer on the left, told last", seer, 1, 0, 12);
        GreenJars right = Check.shelf("SJ05309J75329");
        Check.weeks(right, 18);
        restsAre("the seer on the right", right, 0, 1, 10);
        restsAre("the seer on the right, told first", right, 1, 0, 1);
    }

    private static void restsRefused() {
        S.of(25, "nothing is changed by it");
        S.keeps("rests", 1, Shelves::half, x -> x.rests(0, 1, 0));
        S.keeps("rests", 20, Shelves::full, x -> x.rests(2, 3, 1));
        S.of(25, "UNKNOWN: both");
        S.keeps("0 and 1 of none", UNKNOWN, GreenJars::new, x -> x.rests(0, 1, 0));
        S.keeps("2 and 3 of three", UNKNOWN, Shelves::half, x -> x.rests(2, 3, 0));
        S.keeps("3 and 2 of three", UNKNOWN, Shelves::half, x -> x.rests(3, 2, 0));
        for (int jar : NO_JAR) {
            S.keepsAll("one " + jar, UNKNOWN, x -> x.rests(jar, 2, 0));
            S.keepsAll("other " + jar, UNKNOWN, x -> x.rests(2, jar, 0));
        }
        S.of(25, "BAD: both are one");
        S.keeps("0 and 0", BAD, Shelves::half, x -> x.rests(0, 0, 0));
        S.keeps("5 and 5", BAD, Shelves::full, x -> x.rests(5, 5, 1));
        S.of(25, "BAD: what");
        for (int what : new int[] {-1, 2, LEAST, GREATEST}) {
            S.keeps("what " + what, BAD, Shelves::half, x -> x.rests(0, 1, what));
        }
        S.of(25, "LATE: one is not whole");
        S.keeps("the one is cracked", LATE, Shelves::broken, x -> x.rests(0, 2, 0));
        S.keeps("the other one is cracked", LATE, Shelves::broken, x -> x.rests(2, 0, 1));
        S.keeps("the one is open", LATE, Shelves::broken, x -> x.rests(1, 2, 1));
        S.keeps("the other one is open", LATE, Shelves::broken, x -> x.rests(2, 1, 0));
        S.keeps("neither is whole", LATE, Shelves::broken, x -> x.rests(0, 1, 0));
        S.of(25, "UNKNOWN is told ahead of BAD, BAD ahead of LATE");
        S.keepsAll("6 and 6, what 2", UNKNOWN, x -> x.rests(6, 6, 2));
        S.keeps("one not there, what 2", UNKNOWN, Shelves::broken, x -> x.rests(2, 3, 2));
        S.keeps("a cracked one twice", BAD, Shelves::broken, x -> x.rests(0, 0, 0));
        S.keeps("a cracked one, what 2", BAD, Shelves::broken, x -> x.rests(0, 2, 2));
        S.keeps("an open one, what -1", BAD, Shelves::broken, x -> x.rests(2, 1, -1));
    }

    private static void papersAre(GreenJars x, int m, int tenths, int above, int below) {
        S.due("papers " + m + ", " + tenths + ", above", above, x.papers(m, tenths, true));
        S.due("papers " + m + ", " + tenths + ", below", below, x.papers(m, tenths, false));
    }

    private static void papersOfFew() {
        S.of(26, "that 0 PAIRS or more are left: always, 1, below 1");
        GreenJars[] any = {new GreenJars(), Shelves.noneWhole(), Shelves.full(), Shelves.turned("SJ05319J15309")};
        for (GreenJars x : any) {
            for (int tenths = 0; tenths <= 10; tenths++) {
                papersAre(x, 0, tenths, 1, 1);
            }
        }
        S.of(26, "that more are left than can be: never, 0, below 1");
        for (int m = 1; m <= 3; m++) {
            for (int tenths = 0; tenths <= 10; tenths++) {
                papersAre(any[0], m, tenths, 0, 1);
                papersAre(any[1], m, tenths, 0, 1);
                papersAre(any[2], m, tenths, 0, 1);
            }
        }
        papersAre(any[3], 2, 5, 0, 1);
        papersAre(any[3], 3, 0, 0, 1);
        S.of(26, "OPENED by x tenths (0 .. 10), by itself: one PAIR stays, if both stay; in least terms");
        int[] above = {1, 81, 16, 49, 9, 1, 4, 9, 1, 1, 0};
        int[] below = {1, 100, 25, 100, 25, 4, 25, 100, 25, 100, 1};
        for (int tenths = 0; tenths <= 10; tenths++) {
            papersAre(any[3], 1, tenths, above[tenths], below[tenths]);
        }
    }

    private static void papersOfMany() {
        S.of(26, "m (0 .. 3) PAIRS or more");
        GreenJars two = Shelves.turned("SJ05319J15309J45319J75309");
        papersAre(two, 2, 0, 1, 1);
        papersAre(two, 3, 0, 0, 1);
        papersAre(two, 2, 5, 1, 16);
        papersAre(two, 2, 9, 1, 10000);
        // Of the 16 ways to open some, 8 leave nobody who looks right ahead of one who looks left.
        papersAre(two, 1, 5, 1, 2);
        S.of(26, "the greatest below, 1000000, of six");
        GreenJars three = Shelves.turned("SJ05319J15309J25319J35309J45319J55309");
        papersAre(three, 3, 0, 1, 1);
        papersAre(three, 3, 1, 531441, 1000000);
        papersAre(three, 3, 3, 117649, 1000000);
        papersAre(three, 3, 9, 1, 1000000);
        papersAre(three, 3, 5, 1, 64);
        papersAre(three, 3, 10, 0, 1);
        papersAre(three, 1, 5, 11, 16);
        S.of(26, "a PAIR can come by what is OPENED between");
        GreenJars between = Shelves.turned("SJ05319J15339J25309");
        S.due("pairs", 0, between.about(6));
        papersAre(between, 1, 0, 0, 1);
        papersAre(between, 1, 10, 0, 1);
        papersAre(between, 1, 5, 1, 8);
        papersAre(between, 1, 4, 18, 125);
        papersAre(between, 1, 9, 9, 1000);
        S.of(26, "only whole JARS are OPENED: a CRACKED one between stays");
        GreenJars cracked = Check.shelf("SJ05319J15331J25309");
        Check.weeks(cracked, 4);
        Check.shakes(cracked, 3);
        Check.weeks(cracked, 2);
        S.due("cracked", 2, cracked.about(3));
        papersAre(cracked, 1, 5, 0, 1);
        S.of(26, "one that is OPEN does not count");
        GreenJars open = Shelves.turned("SJ05319J15339J25309");
        open.open(1);
        papersAre(open, 1, 5, 1, 4);
        papersAre(open, 1, 0, 1, 1);
        S.of(26, "what is left is as far as it was");
        GreenJars far = Shelves.turned("SJ05319J35339J75309");
        papersAre(far, 1, 5, 1, 8);
        Check.weeks(far, 4);
        papersAre(far, 1, 5, 0, 1);
    }

    private static void papersRefused() {
        S.of(26, "BAD: m, x");
        for (int m : new int[] {-1, 4, LEAST, GREATEST}) {
            S.keepsAll("m " + m, BAD, x -> x.papers(m, 5, true));
            S.keepsAll("m " + m, BAD, x -> x.papers(m, 5, false));
        }
        for (int tenths : new int[] {-1, 11, LEAST, GREATEST}) {
            S.keepsAll("x " + tenths, BAD, x -> x.papers(0, tenths, true));
            S.keepsAll("x " + tenths, BAD, x -> x.papers(3, tenths, false));
        }
        S.of(26, "nothing is changed by it");
        S.keepsAll("papers", 1, x -> x.papers(0, 5, true));
        S.keeps("papers", 1, Shelves::full, x -> x.papers(3, 10, false));
        S.keeps("papers", 49, () -> Shelves.turned("SJ05319J15309"), x -> x.papers(1, 3, true));
    }

    private static void seed() {
        S.of(27, "THE SEED is v: what it was, 0 at first");
        GreenJars x = new GreenJars();
        long[] seeds = {1, -1, Long.MIN_VALUE, Long.MAX_VALUE, 1L << 32, 0, 77};
        long was = 0;
        for (long seed : seeds) {
            S.due("seed " + seed, was, x.seed(seed));
            was = seed;
        }
        S.of(27, "it changes nothing else, and nothing else but years changes it");
        S.keeps("seed 77 once more", 77, Shelves::full, y -> y.seed(77));
        GreenJars full = Shelves.full();
        full.again(0);
        full.undo();
        full.sale();
        full.wipe();
        full.untaste();
        S.due("seed", 77, full.seed(0));
    }

    private static BigInteger next(BigInteger state) {
        return state.multiply(TIMES).add(MORE).mod(ROUND);
    }

    private static int doingOf(BigInteger state) {
        return state.shiftRight(33).mod(BigInteger.valueOf(32)).intValue();
    }

    /** The seed behind which the state is this one. */
    private static BigInteger seedAheadOf(BigInteger state) {
        return state.subtract(MORE).multiply(TIMES.modInverse(ROUND)).mod(ROUND);
    }

    /** A seed by which these are the first doings, as 0 .. 31 each. */
    private static long seedFor(int... doings) {
        for (long low = 0; low < 1L << 24; low++) {
            // The bits above and below those that count are set, or nearly all, to show that they do not matter.
            BigInteger first = ROUND.subtract(BigInteger.ONE.shiftLeft(38)).add(BigInteger.valueOf(doings[0]).shiftLeft(33))
                .add(BigInteger.valueOf((1L << 33) - 1 - low));
            if (areDoings(first, doings)) {
                return seedAheadOf(first).longValue();
            }
        }
        throw new IllegalStateException("no seed was found");
    }

    private static boolean areDoings(BigInteger first, int[] doings) {
        BigInteger state = first;
        for (int doing : doings) {
            if (doingOf(state) != doing) {
                return false;
            }
            state = next(state);
        }
        return true;
    }

    private static void yearsAre(String what, GreenJars x, long seed, int m, int together) {
        x.seed(seed);
        S.due("years " + m + ", " + what, together, x.years(m));
    }

    private static void yearsSeed() {
        S.of(28, "m times x becomes x times 6364136223846793005 and 1442695040888963407 (64 bits, wrapping)");
        long[] seeds = {0, 1, -1, Long.MIN_VALUE, Long.MAX_VALUE, 5};
        for (long seed : seeds) {
            for (int m : new int[] {1, 2, 29, 30}) {
                BigInteger state = BigInteger.valueOf(seed);
                for (int k = 0; k < m; k++) {
                    state = next(state);
                }
                GreenJars x = new GreenJars();
                x.seed(seed);
                S.due("years of nobody", 0, x.years(m));
                S.due("the seed behind " + m + " from " + seed, state.longValue(), x.seed(0));
            }
        }
        S.due("the first one, from 0", 1442695040888963407L, behindOne(0));
        S.of(28, "THE SEED goes on from call to call");
        GreenJars x = new GreenJars();
        GreenJars y = new GreenJars();
        for (int k = 0; k < 30; k++) {
            x.years(1);
        }
        y.years(30);
        S.due("thirty times one, or thirty at once", y.seed(0), x.seed(0));
    }

    private static long behindOne(long seed) {
        GreenJars x = new GreenJars();
        x.seed(seed);
        x.years(1);
        return x.seed(0);
    }

    /** In an odd week colonels stay as they are, so that only this jar's stuff is seen in the flavours. */
    private static GreenJars plainAmongColonels(int plain, int stuff) {
        StringBuilder text = new StringBuilder("S");
        for (int jar = 0; jar < 6; jar++) {
            text.append('J').append(jar).append('5').append(jar == plain ? stuff : 3).append(jar == plain ? '0' : '3').append('9');
        }
        GreenJars x = Check.shelf(text.toString());
        x.week();
        return x;
    }

    private static void yearsPour() {
        S.of(28, "0 .. 23: that by 4 (down) is a JAR that is POURED in the STUFF that is left by 4");
        int[] more = {1, -1, 0, 0};
        for (int doing = 0; doing <= 23; doing++) {
            for (int plain = 0; plain < 6; plain++) {
                GreenJars x = plainAmongColonels(plain, 3);
                int then = plain == doing / 4 ? 30 + more[doing % 4] : 30;
                yearsAre("doing " + doing + ", then a week, jar " + plain, x, seedFor(doing, 25), 2, 30 + then);
            }
        }
        S.of(28, "it is POURED: its HAZE is 0, and it does not CRACK");
        GreenJars hazy = Check.shelf("SJ05301J16301");
        Check.weeks(hazy, 4);
        yearsAre("jar 1 poured, then shaken", hazy, seedFor(4, 24), 2, 11 + 6);
        yearsAre("jar 0 poured, then shaken", hazy, seedFor(0, 24), 2, 11 + 5);
        S.of(28, "if it can be: not in the STUFF that it is in, not a JAR that is not whole, or not there");
        yearsAre("poured in what it is in, then shaken", hazy, seedFor(3, 24), 2, 11);
        yearsAre("a jar that is not there, then shaken", hazy, seedFor(8, 24), 2, 11);
        yearsAre("the last jar, not there, then shaken", hazy, seedFor(20, 24), 2, 11);
        GreenJars broken = Shelves.broken();
        yearsAre("a cracked one poured, then a week", broken, seedFor(1, 25), 2, 18);
        yearsAre("an open one poured, then a week", broken, seedFor(5, 25), 2, 18);
        yearsAre("the whole one poured, then a week", broken, seedFor(9, 25), 2, 17);
    }

    private static void yearsShakeAndWeek() {
        S.of(28, "24 SHAKEN");
        GreenJars hazy = Check.shelf("SJ05301J16309");
        Check.weeks(hazy, 4);
        yearsAre("shaken", hazy, seedFor(24), 1, 6);
        yearsAre("shaken, then a week", hazy, seedFor(24, 25), 2, 12);
        S.of(28, "25 .. 31 A WEEK");
        for (int doing = 25; doing <= 31; doing++) {
            yearsAre("doing " + doing, Check.shelf("SJ05009J15009"), seedFor(doing), 1, 12);
        }
        S.of(28, "0 .. 24 are no WEEK, 24 .. 31 pour nothing");
        for (int doing = 0; doing <= 24; doing++) {
            yearsAre("doing " + doing, Check.shelf("SJ05009J15009"), seedFor(doing), 1, 10);
        }
        S.of(28, "its upper 31 bits, as they are without a sign");
        // All bits: what is left of the upper 31 by 32 is 31; the highest alone: 0 is left.
        GreenJars x = Check.shelf("SJ05009J15009");
        yearsAre("all bits", x, seedAheadOf(ROUND.subtract(BigInteger.ONE)).longValue(), 1, 12);
        yearsAre("the highest bit", x, seedAheadOf(BigInteger.ONE.shiftLeft(63)).longValue(), 1, 10);
        yearsAre("all bits below", x, seedAheadOf(BigInteger.ONE.shiftLeft(33).subtract(BigInteger.ONE)).longValue(), 1, 10);
        S.of(28, "WEEKS are odd and even as on the shelf");
        GreenJars colonel = Check.shelf("SJ05339");
        yearsAre("syrup, then weeks, from an even one", colonel, seedFor(0, 25, 25), 3, 5 + 6 + 6);
        colonel.week();
        yearsAre("syrup, then weeks, from an odd one", colonel, seedFor(0, 25, 25), 3, 5 + 5 + 6);
    }

    private static void yearsTogether() {
        S.of(28, "FLAVOURS of all whole JARS, each time, together");
        GreenJars x = Check.shelf("SJ05009");
        yearsAre("weeks", x, seedFor(25, 26, 31), 3, 6 + 7 + 8);
        yearsAre("no weeks", x, seedFor(24, 20, 5), 3, 15);
        S.of(28, "the least and the greatest m: 1, 30");
        GreenJars still = Check.shelf("SJ09329J19329J29329");
        still.open(0);
        still.open(1);
        still.open(2);
        S.due("years 30 of none whole", 0, still.years(30));
        for (int m : new int[] {1, 30}) {
            S.due("years " + m + " by 0", told(m), Check.shelf("SJ05001J15112J25223J35334J40009").years(m));
        }
        S.of(28, "nothing changes but THE SEED");
        S.keeps("years", 0, GreenJars::new, y -> yearsThenSeed(y, 0));
        S.keeps("years", Shelves.half().years(30), Shelves::half, y -> yearsThenSeed(y, -5));
        S.keeps("years", Shelves.full().years(30), Shelves::full, y -> yearsThenSeed(y, 77));
    }

    private static int yearsThenSeed(GreenJars y, long seed) {
        int together = y.years(30);
        y.seed(seed);
        return together;
    }

    /** The same doings done by hand, from the seed 0 on. */
    private static int told(int m) {
        GreenJars y = Check.shelf("SJ05001J15112J25223J35334J40009");
        BigInteger state = BigInteger.ZERO;
        int together = 0;
        for (int k = 0; k < m; k++) {
            state = next(state);
            int doing = doingOf(state);
            if (doing < 24) {
                y.pour(doing / 4, doing % 4);
            } else if (doing == 24) {
                y.shake();
            } else {
                y.week();
            }
            for (int jar = 0; jar < 5; jar++) {
                together += y.jar(jar, 7) == 0 ? y.jar(jar, 1) : 0;
            }
        }
        return together;
    }

    private static void yearsRefused() {
        S.of(28, "BAD: m; THE SEED stays too");
        for (int m : new int[] {0, 31, -1, LEAST, GREATEST}) {
            S.keepsAll("m " + m, BAD, x -> x.years(m));
        }
    }
}
