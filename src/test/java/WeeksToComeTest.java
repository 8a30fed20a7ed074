/** Promises 15 to 21: weeks to come. */
public final class WeeksToComeTest {
    private static final Check CHECK = new Check();
    private static final int NONE = GreenJars.NONE, UNKNOWN = GreenJars.UNKNOWN, BAD = GreenJars.BAD, LATE = GreenJars.LATE;

    public static void main(String[] args) {
        later();
        becomes();
        fails();
        stuff();
        row();
        judge();
        share();
        CHECK.end("WeeksToComeTest");
    }

    private static void due(String call, long want, long got) {
        CHECK.due(call, want, got);
    }

    /** Jar 0 is cracked, jar 1 is open, jar 2 is whole. */
    private static GreenJars broken() {
        GreenJars x = Check.shelf("SJ03001J14009J25009");
        Check.weeks(x, 4);
        x.shake();
        x.open(1);
        return x;
    }

    private static void later() {
        GreenJars x = Check.shelf("SJ04019J18119J72039");
        String before = Check.state(x);
        due("syrup in 0", 4, x.later(0, 0, 0));
        due("syrup in 4", 8, x.later(0, 4, 0));
        due("syrup in 20", 9, x.later(0, 20, 0));
        due("vinegar in 7", 1, x.later(1, 7, 0));
        due("vinegar in 20", 0, x.later(1, 20, 0));
        due("a colonel in 1", 3, x.later(2, 1, 0));
        due("a colonel in 2", 3, x.later(2, 2, 0));
        due("a colonel in 12", 8, x.later(2, 12, 0));
        due("a turner sees in 1", 1, x.later(0, 1, 1));
        due("a turner sees in 0", NONE, x.later(0, 0, 1));
        due("the other one sees the colonel", 2, x.later(1, 1, 1));
        due("and back in 3", 0, x.later(1, 3, 1));
        due("n -1", BAD, x.later(0, -1, 0));
        due("n 21", BAD, x.later(0, 21, 0));
        due("what -1", BAD, x.later(0, 0, -1));
        due("what 2", BAD, x.later(0, 0, 2));
        due("jar 3", UNKNOWN, x.later(3, 0, 0));
        due("UNKNOWN ahead of BAD", UNKNOWN, x.later(-1, 21, 2));
        CHECK.same("later", before, x);
        x.week();
        due("a colonel from week 1 in 1", 3, x.later(2, 1, 0));
        due("a colonel from week 1 in 2", 4, x.later(2, 2, 0));
        GreenJars far = Check.shelf("SJ00309J70309");
        far.shake();
        due("through haze in 3", 1, far.later(0, 3, 1));
        due("no more in 4", NONE, far.later(0, 4, 1));
        GreenJars y = broken();
        due("a cracked one's flavour", 7, y.later(0, 9, 0));
        due("an open one's flavour", 8, y.later(1, 9, 0));
        due("an open one sees none", NONE, y.later(1, 9, 1));
    }

    private static void becomes() {
        GreenJars x = Check.shelf("SJ04009J19109J20039J35309J40209");
        String before = Check.state(x);
        due("it is so", 0, x.becomes(0, 4));
        due("syrup", 5, x.becomes(0, 9));
        due("never", NONE, x.becomes(0, 3));
        due("vinegar", 9, x.becomes(1, 0));
        due("a colonel, from even weeks", 17, x.becomes(2, 9));
        due("brine", NONE, x.becomes(3, 6));
        due("brandy", 5, x.becomes(4, 5));
        due("brandy goes no further", NONE, x.becomes(4, 6));
        due("v -1", BAD, x.becomes(0, -1));
        due("v 10", BAD, x.becomes(0, 10));
        due("jar 5", UNKNOWN, x.becomes(5, 0));
        due("UNKNOWN ahead of BAD", UNKNOWN, x.becomes(-1, 10));
        CHECK.same("becomes", before, x);
        x.pour(2, 1);
        x.week();
        x.pour(2, 0);
        due("a colonel, from odd weeks", 18, x.becomes(2, 9));
        GreenJars y = broken();
        due("cracked", LATE, y.becomes(0, 7));
        due("open", LATE, y.becomes(1, 8));
        due("BAD ahead of LATE", BAD, y.becomes(1, 10));
    }

    private static void fails() {
        GreenJars x = Check.shelf("SJ04001J19108J20039J35321J40205");
        String before = Check.state(x);
        due("size 1", 4, x.fails(0));
        due("size 8", 18, x.fails(1));
        due("size 9", NONE, x.fails(2));
        due("a seer", NONE, x.fails(3));
        due("size 5", 12, x.fails(4));
        due("jar 5", UNKNOWN, x.fails(5));
        due("jar -1", UNKNOWN, x.fails(-1));
        CHECK.same("fails", before, x);
        x.week();
        due("size 8 from week 1", 17, x.fails(1));
        Check.weeks(x, 3);
        due("size 1 in no week", 0, x.fails(0));
        x.pour(0, 1);
        due("poured", 4, x.fails(0));
        GreenJars y = broken();
        due("cracked", LATE, y.fails(0));
        due("open", LATE, y.fails(1));
    }

    private static void stuff() {
        GreenJars x = Check.shelf("SJ04009J14139J24209");
        String before = Check.state(x);
        due("syrup", 0, x.stuff(0, 4, 8, 0));
        due("syrup, near", 0, x.stuff(0, 4, 8, 1));
        due("of like ones the least", 1, x.stuff(0, 4, 2, 0));
        due("near", 2, x.stuff(0, 4, 2, 1));
        due("brandy", 2, x.stuff(0, 4, 5, 0));
        due("brine", 3, x.stuff(0, 4, 4, 0));
        due("12 weeks", 1, x.stuff(0, 12, 0, 0));
        due("a colonel behind 2", 0, x.stuff(1, 2, 5, 0));
        due("a colonel behind 4", 0, x.stuff(1, 4, 6, 1));
        due("left in what it is in", 2, x.stuff(2, 9, 5, 0));
        due("n 0", BAD, x.stuff(0, 0, 0, 0));
        due("n 13", BAD, x.stuff(0, 13, 0, 0));
        due("v -1", BAD, x.stuff(0, 1, -1, 0));
        due("v 10", BAD, x.stuff(0, 1, 10, 0));
        due("what -1", BAD, x.stuff(0, 1, 0, -1));
        due("what 2", BAD, x.stuff(0, 1, 0, 2));
        due("UNKNOWN ahead of BAD", UNKNOWN, x.stuff(3, 0, 0, 0));
        CHECK.same("stuff", before, x);
        GreenJars y = broken();
        due("cracked", LATE, y.stuff(0, 1, 0, 0));
        due("open", LATE, y.stuff(1, 1, 0, 0));
        due("BAD ahead of LATE", BAD, y.stuff(1, 0, 0, 0));
    }

    private static void row() {
        GreenJars none = new GreenJars();
        due("no pairs", 0, none.row(false));
        due("no way", 0, none.row(true));
        GreenJars one = Check.shelf("SJ75309");
        due("one jar", 8, one.row(true));
        due("one jar, pairs", 0, one.row(false));
        // The plain one looks left and the turner right: they see one another when they change places.
        GreenJars x = Check.shelf("SJ05309J15319");
        Check.shakes(x, 3);
        Check.weeks(x, 2);
        String before = Check.state(x);
        due("pairs now", 0, x.about(6));
        due("pairs", 1, x.row(false));
        due("the way", 21, x.row(true));
        CHECK.same("row", before, x);
        x.open(0);
        due("whole ones alone", 2, x.row(true));
        hidden();
        two();
    }

    private static void hidden() {
        // As above, but a cracked one between them stays where it is.
        GreenJars x = Check.shelf("SJ05309J25319J15301");
        Check.weeks(x, 4);
        Check.shakes(x, 3);
        Check.weeks(x, 2);
        due("one is cracked", 0b100, x.about(3));
        due("hidden", 0, x.row(false));
        due("the least way", 13, x.row(true));
    }

    private static void two() {
        // Two turners look right, two plain ones left: right, left, right, left makes two pairs.
        GreenJars x = Check.shelf("SJ05309J25309J45319J65319");
        Check.shakes(x, 3);
        Check.weeks(x, 2);
        due("two pairs", 2, x.row(false));
        // Jar 0 can not stand leftmost; jar 2 or 3 must.
        due("the least way of two pairs", 3715, x.row(true));
        GreenJars y = Check.shelf("SJ55319J45319J35319J25309J15309J05309");
        Check.shakes(y, 3);
        Check.weeks(y, 2);
        due("three pairs", 3, y.row(false));
        due("the least way of three pairs", 135246, y.row(true));
    }

    private static void judge() {
        GreenJars x = Check.shelf("SJ20213J55111J69301");
        String before = Check.state(x);
        long[] can = {0, 100, 203, 217, 301, 310, 400, 402, 600, 615, 629};
        for (long doing : can) {
            due("judge " + doing, NONE, x.judge(1, doing));
        }
        long[] not = {1, 10, 101, 110, 202, 205, 208, 233, 302, 304, 330, 403, 410, 501, 505, 511, 530, 550,
            605, 616, 630, 690, 700, 800, 900, 999};
        for (long doing : not) {
            due("judge " + doing, 0, x.judge(1, doing));
        }
        due("an open one is not whole", 1, x.judge(2, 400600));
        due("an open one is not set", 1, x.judge(2, 400207));
        due("an open one's place is free", NONE, x.judge(2, 401205));
        due("shaken, it sees", NONE, x.judge(2, 100501));
        due("shaken, it is not seen by that", 1, x.judge(2, 100510));
        due("ahead come weeks", NONE, x.judge(2, 100));
        due("three weeks of brandy", NONE, x.judge(4, 603));
        due("not four", 3, x.judge(4, 604));
        due("the third", 2, x.judge(3, 401301501));
        due("only the first is told", 0, x.judge(4, 999999999999L));
        due("poured twice", 1, x.judge(2, 301301));
        due("n 0", BAD, x.judge(0, 0));
        due("n 5", BAD, x.judge(5, 0));
        due("n -1", BAD, x.judge(-1, 0));
        due("row -1", BAD, x.judge(1, -1));
        due("row least", BAD, x.judge(4, Long.MIN_VALUE));
        due("4 figures", BAD, x.judge(1, 1000));
        due("7 figures", BAD, x.judge(2, 1000000));
        due("13 figures", BAD, x.judge(4, 1000000000000L));
        due("row most", BAD, x.judge(4, Long.MAX_VALUE));
        CHECK.same("judge", before, x);
    }

    private static void share() {
        due("nobody", UNKNOWN, new GreenJars().share(0, true));
        GreenJars x = Check.shelf("SJ05309J15309J75339");
        shareOf(x, 0, 0, 1);
        x.shake();
        // 0 sees 1, or the colonel, if 1 has not come; 1 sees the colonel.
        shareOf(x, 0, 2, 3);
        shareOf(x, 1, 2, 3);
        shareOf(x, 2, 2, 3);
        due("jar 3", UNKNOWN, x.share(3, true));
        due("jar -1", UNKNOWN, x.share(-1, false));
        x.open(1);
        shareOf(x, 0, 1, 2);
        shareOf(x, 1, 0, 1);
        shareOf(x, 2, 1, 2);
        GreenJars y = hazyBetween();
        String before = Check.state(y);
        shareOf(y, 0, 1, 3);
        shareOf(y, 1, -2, 3);
        shareOf(y, 2, 1, 3);
        CHECK.same("share", before, y);
        GreenJars z = Check.shelf("SJ00309J65301");
        Check.weeks(z, 4);
        z.shake();
        shareOf(z, 0, 1, 2);
        shareOf(z, 1, 1, 2);
    }

    private static void shareOf(GreenJars x, int jar, int above, int below) {
        due("share of " + jar + ", above", above, x.share(jar, true));
        due("share of " + jar + ", below", below, x.share(jar, false));
    }

    /** Jars 0 and 2 look at one another, clear; jar 1 between them is too hazy to be seen. */
    private static GreenJars hazyBetween() {
        GreenJars x = Check.shelf("SJ05319J15309J25309");
        Check.weeks(x, 20);
        Check.shakes(x, 3);
        Check.weeks(x, 2);
        x.pour(0, 0);
        x.pour(2, 0);
        return x;
    }
}
