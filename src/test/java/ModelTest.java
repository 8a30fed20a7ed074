import java.util.ArrayList;
import java.util.List;
import java.util.Random;

/** Promises 1 to 30: long runs of calls by a fixed seed, program and model side by side. */
public final class ModelTest {
    private static final int RUNS = 3000;
    private static final int CALLS = 512;

    private final Random random;
    private final GreenJars x = new GreenJars();
    private final Model model = new Model();
    private final List<String> told = new ArrayList<>();
    // In a calm run few jars are lost and many turn by themselves, so that pairs are not rare.
    private final boolean calm;

    private ModelTest(long seed) {
        random = new Random(seed);
        calm = random.nextBoolean();
    }

    public static void main(String[] args) {
        int wrong = 0;
        long answers = 0;
        for (int run = 0; run < RUNS && wrong < 5; run++) {
            ModelTest test = new ModelTest(run);
            boolean fine = test.run();
            answers += test.told.size();
            if (!fine) {
                wrong++;
                System.out.println("run " + run + ": " + test.told.get(test.told.size() - 1));
                int from = Math.max(0, test.told.size() - 12);
                System.out.println("  behind " + test.told.subList(from, test.told.size() - 1));
            }
        }
        System.out.println("ModelTest: " + answers + " answers, " + wrong + " runs wrong");
        if (wrong != 0) {
            System.exit(1);
        }
    }

    private boolean run() {
        if (random.nextInt(8) != 0 && !newSale()) {
            return false;
        }
        while (told.size() < CALLS) {
            if (random.nextInt(60) == 0 && told.size() < CALLS - 60) {
                if (!newSale()) {
                    return false;
                }
            } else if (!oneCall()) {
                return false;
            }
        }
        return true;
    }

    private boolean is(String name, long got, long want) {
        boolean same = got == want;
        told.add(same ? name + " = " + got : name + " answered " + got + ", due is " + want);
        return same;
    }

    private boolean newSale() {
        boolean fine = is("wipe", x.wipe(), model.wipe());
        String text = random.nextInt(5) == 0 ? wrongText() : rightText();
        for (int k = 0; k < text.length() && fine; k++) {
            fine = is("write " + text.charAt(k), x.write(text.charAt(k)), model.write(text.charAt(k)));
        }
        return fine && is("fault", x.fault(), model.fault()) && is("sale", x.sale(), model.sale());
    }

    private String rightText() {
        List<Integer> places = new ArrayList<>(List.of(0, 1, 2, 3, 4, 5, 6, 7));
        StringBuilder text = new StringBuilder("S");
        int jars = random.nextInt(4) == 0 ? random.nextInt(7) : 4 + random.nextInt(3);
        for (int k = 0; k < jars; k++) {
            text.append('J').append(places.remove(random.nextInt(places.size())));
            int kind = calm && random.nextBoolean() ? 1 : random.nextInt(4);
            text.append(random.nextInt(10)).append(random.nextInt(4)).append(kind);
            text.append(calm || random.nextBoolean() ? 9 : 1 + random.nextInt(9));
        }
        return text.toString();
    }

    private String wrongText() {
        StringBuilder text = new StringBuilder(rightText());
        int place = random.nextInt(text.length());
        switch (random.nextInt(4)) {
            case 0: text.setCharAt(place, (char) random.nextInt(256)); break;
            case 1: text.setCharAt(place, (char) ('/' + random.nextInt(12))); break;
            case 2: text.setLength(place); break;
            default: text.insert(place, 'J');
        }
        return text.toString();
    }

    /** Mostly within the bounds, or one beyond, now and then far away. */
    private int near(int least, int most) {
        int dice = random.nextInt(40);
        if (dice == 0) {
            return least - 1;
        }
        if (dice == 1) {
            return most + 1;
        }
        if (dice == 2) {
            int[] far = {Integer.MIN_VALUE, Integer.MAX_VALUE, -9, 1000, 256, -256};
            return far[random.nextInt(far.length)];
        }
        return least + random.nextInt(most - least + 1);
    }

    private int someJar() {
        return near(0, Math.max(0, model.about(0) - 1));
    }

    private boolean oneCall() {
        int dice = random.nextInt(100);
        if (dice < 45) {
            return act();
        }
        if (dice < 70) {
            return look();
        }
        return ask();
    }

    private boolean act() {
        int jar = someJar();
        switch (random.nextInt(20)) {
            case 0: case 1: case 2: case 3: case 4: case 5:
                return is("week", x.week(), model.week());
            case 6: case 7: case 8: case 9:
                return is("shake", x.shake(), model.shake());
            case 10: case 11: case 12:
                int place = near(0, 7);
                return is("set " + jar + " " + place, x.set(jar, place), model.set(jar, place));
            case 13: case 14: case 15:
                int stuff = near(0, 3);
                return is("pour " + jar + " " + stuff, x.pour(jar, stuff), model.pour(jar, stuff));
            case 16:
                return random.nextInt(calm ? 12 : 3) != 0 || is("open " + jar, x.open(jar), model.open(jar));
            case 17: case 18:
                return is("undo", x.undo(), model.undo());
            default:
                int slot = near(0, 1);
                return random.nextBoolean() ? is("keep " + slot, x.keep(slot), model.keep(slot))
                    : is("again " + slot, x.again(slot), model.again(slot));
        }
    }

    private boolean look() {
        int what = near(0, 9);
        int jar = someJar();
        switch (random.nextInt(6)) {
            case 0: case 1:
                return is("about " + what, x.about(what), model.about(what));
            case 2: case 3: case 4:
                return is("jar " + jar + " " + what, x.jar(jar, what), model.jar(jar, what));
            default:
                return is("at " + what, x.at(what), model.at(what));
        }
    }

    private boolean ask() {
        int jar = someJar();
        int other = someJar();
        int v = near(0, 9);
        int n = near(0, 20);
        int what = near(0, 1);
        boolean way = random.nextBoolean();
        switch (random.nextInt(16)) {
            case 0: return is("later " + jar + " " + n + " " + what, x.later(jar, n, what), model.later(jar, n, what));
            case 1: return is("becomes " + jar + " " + v, x.becomes(jar, v), model.becomes(jar, v));
            case 2: return is("fails " + jar, x.fails(jar), model.fails(jar));
            case 3:
                int m = near(1, 12);
                return is("stuff " + jar + " " + m + " " + v + " " + what, x.stuff(jar, m, v, what), model.stuff(jar, m, v, what));
            case 4: return is("row " + way, x.row(way), model.row(way));
            case 5: case 6: case 7: return judged();
            case 8: return is("share " + jar + " " + way, x.share(jar, way), model.share(jar, way));
            case 9: return is("taste " + v + " " + n % 10, x.taste(v, n % 10), model.taste(v, n % 10));
            case 10: return random.nextInt(4) != 0 || is("untaste", x.untaste(), model.untaste());
            case 11: return is("kept " + what, x.kept(what), model.kept(what));
            case 12: return is("rests " + jar + " " + other + " " + what, x.rests(jar, other, what), model.rests(jar, other, what));
            case 13:
                int pairs = near(0, 3);
                int tenths = near(0, 10);
                return is("papers " + pairs + " " + tenths + " " + way, x.papers(pairs, tenths, way), model.papers(pairs, tenths, way));
            case 14:
                long seed = random.nextLong();
                return is("seed " + seed, x.seed(seed), model.seed(seed));
            default:
                int years = near(1, 30);
                return is("years " + years, x.years(years), model.years(years));
        }
    }

    private boolean judged() {
        int n = near(1, 4);
        StringBuilder figures = new StringBuilder();
        for (int k = 0; k < Math.min(Math.max(n, 1), 4); k++) {
            int kind = random.nextInt(20) == 0 ? random.nextInt(10) : random.nextInt(7);
            boolean free = kind == 0 || kind == 1;
            figures.append(kind);
            figures.append(free || kind == 4 ? random.nextInt(20) / 19 : random.nextInt(7));
            figures.append(free ? random.nextInt(20) / 19 : random.nextInt(kind == 3 ? 5 : 10));
        }
        long row = Long.parseLong(figures.toString());
        if (random.nextInt(20) == 0) {
            long[] far = {-1, Long.MIN_VALUE, Long.MAX_VALUE, 1000, 1000000, 1000000000L, 999999999999L, 1000000000000L};
            row = far[random.nextInt(far.length)];
        }
        return is("judge " + n + " " + row, x.judge(n, row), model.judge(n, row));
    }
}
