import java.math.BigInteger;

/** Promises 25 to 28: rests, papers, the seed, years. */
public final class ChancesTest {
    private static final Check CHECK = new Check();
    private static final int UNKNOWN = GreenJars.UNKNOWN, BAD = GreenJars.BAD, LATE = GreenJars.LATE;

    public static void main(String[] args) {
        rests();
        papers();
        seed();
        years();
        CHECK.end("ChancesTest");
    }

    private static void due(String call, long want, long got) {
        CHECK.due(call, want, got);
    }

    private static void rests() {
        GreenJars x = Check.shelf("SJ05309J15309J45309J65329");
        String before = Check.state(x);
        restsOf(x, 0, 1, 1, 20);
        restsOf(x, 1, 0, 1, 2);
        restsOf(x, 1, 2, 1, 20);
        // One stands between them: neither can see the other one, so both look out.
        restsOf(x, 0, 2, 1, 11);
        due("one unknown", UNKNOWN, x.rests(4, 0, 0));
        due("the other unknown", UNKNOWN, x.rests(0, 4, 0));
        due("UNKNOWN ahead of BAD", UNKNOWN, x.rests(-1, -1, 9));
        due("both are one", BAD, x.rests(1, 1, 0));
        due("what -1", BAD, x.rests(0, 1, -1));
        due("what 2", BAD, x.rests(0, 1, 2));
        CHECK.same("rests", before, x);
        x.open(1);
        due("an open one", LATE, x.rests(0, 1, 0));
        due("an open one first", LATE, x.rests(1, 0, 0));
        due("BAD ahead of LATE", BAD, x.rests(1, 1, 0));
        restsOf(x, 0, 2, 1, 20);
        Check.weeks(x, 20);
        // Through all that haze only the seer sees.
        restsOf(x, 2, 3, 1, 10);
        restsOf(x, 3, 2, 1, 1);
        restsOf(x, 0, 2, 1, 11);
    }

    private static void restsOf(GreenJars x, int one, int other, int count, int first) {
        due("rests of " + one + ", " + other, count, x.rests(one, other, 0));
        due("rests of " + one + ", " + other + ", the first", first, x.rests(one, other, 1));
    }

    private static void papers() {
        GreenJars none = new GreenJars();
        papersOf(none, 0, 5, 1, 1);
        papersOf(none, 1, 5, 0, 1);
        GreenJars x = Check.shelf("SJ05319J15309");
        Check.shakes(x, 3);
        Check.weeks(x, 2);
        String before = Check.state(x);
        papersOf(x, 1, 3, 49, 100);
        papersOf(x, 1, 5, 1, 4);
        papersOf(x, 1, 0, 1, 1);
        papersOf(x, 1, 10, 0, 1);
        papersOf(x, 0, 10, 1, 1);
        papersOf(x, 2, 0, 0, 1);
        papersOf(x, 3, 0, 0, 1);
        due("m -1", BAD, x.papers(-1, 5, true));
        due("m 4", BAD, x.papers(4, 5, true));
        due("x -1", BAD, x.papers(1, -1, true));
        due("x 11", BAD, x.papers(1, 11, false));
        CHECK.same("papers", before, x);
        between();
        threePairs();
    }

    private static void between() {
        // Jars 0 and 2 would see one another, if jar 1 between them was gone.
        GreenJars x = Check.shelf("SJ05319J15339J25309");
        Check.shakes(x, 3);
        Check.weeks(x, 2);
        papersOf(x, 1, 5, 1, 8);
        papersOf(x, 1, 4, 18, 125);
        papersOf(x, 1, 3, 147, 1000);
        papersOf(x, 1, 0, 0, 1);
        // A cracked one is not opened.
        GreenJars y = Check.shelf("SJ05319J15331J25309");
        Check.weeks(y, 4);
        Check.shakes(y, 3);
        Check.weeks(y, 2);
        papersOf(y, 1, 5, 0, 1);
        papersOf(y, 0, 5, 1, 1);
    }

    private static void threePairs() {
        // Right, left, right, left, right, left; of the 64 ways to open some, 44, 12 and 1 leave so many pairs.
        GreenJars x = Check.shelf("SJ05319J25319J45319J15309J35309J55309");
        Check.shakes(x, 3);
        Check.weeks(x, 2);
        due("pairs", 3, x.about(6));
        papersOf(x, 0, 5, 1, 1);
        papersOf(x, 1, 5, 11, 16);
        papersOf(x, 2, 5, 3, 16);
        papersOf(x, 3, 5, 1, 64);
        papersOf(x, 3, 1, 531441, 1000000);
    }

    private static void papersOf(GreenJars x, int m, int tenths, int above, int below) {
        due("papers " + m + ", " + tenths + ", above", above, x.papers(m, tenths, true));
        due("papers " + m + ", " + tenths + ", below", below, x.papers(m, tenths, false));
    }

    private static void seed() {
        GreenJars x = new GreenJars();
        due("seed at first", 0, x.seed(5));
        due("seed", 5, x.seed(Long.MIN_VALUE));
        due("seed least", Long.MIN_VALUE, x.seed(Long.MAX_VALUE));
        due("seed most", Long.MAX_VALUE, x.seed(-1));
    }

    private static void years() {
        String text = "SJ05001J15112J25223J35334J40009";
        long[] seeds = {0, 1, 5, -1, 123456789, Long.MAX_VALUE, Long.MIN_VALUE, 3141592653589793238L};
        for (long seed : seeds) {
            for (int m : new int[] {1, 2, 7, 30}) {
                GreenJars x = Check.shelf(text);
                x.week();
                String before = Check.state(x);
                x.seed(seed);
                // The same doings, done for real on another shelf.
                GreenJars y = Check.shelf(text);
                y.week();
                BigInteger state = BigInteger.valueOf(seed);
                int together = 0;
                for (int k = 0; k < m; k++) {
                    state = next(state);
                    doByChance(y, state);
                    together += flavours(y);
                }
                due("years " + m + " by " + seed, together, x.years(m));
                CHECK.same("years", before, x);
                due("the seed behind", state.longValue(), x.seed(0));
            }
        }
        GreenJars x = Check.shelf(text);
        x.seed(9);
        due("m 0", BAD, x.years(0));
        due("m 31", BAD, x.years(31));
        due("m -1", BAD, x.years(-1));
        due("the seed stays", 9, x.seed(0));
    }

    private static BigInteger next(BigInteger state) {
        return state.multiply(new BigInteger("6364136223846793005")).add(new BigInteger("1442695040888963407"))
            .mod(BigInteger.ONE.shiftLeft(64));
    }

    private static void doByChance(GreenJars y, BigInteger state) {
        int chance = state.shiftRight(33).mod(BigInteger.valueOf(32)).intValue();
        if (chance <= 23) {
            y.pour(chance / 4, chance % 4);
        } else if (chance == 24) {
            y.shake();
        } else {
            y.week();
        }
    }

    private static int flavours(GreenJars y) {
        int sum = 0;
        for (int jar = 0; jar < y.about(0); jar++) {
            sum += y.jar(jar, 7) == 0 ? y.jar(jar, 1) : 0;
        }
        return sum;
    }
}
