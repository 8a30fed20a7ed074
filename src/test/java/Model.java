import java.math.BigInteger;
import java.util.ArrayList;
import java.util.List;
import java.util.TreeMap;

/**
 * The document told a second time, slowly and by other means than the program's:
 * objects that are copied whole, all orders and all ways written out, fractions of big integers.
 */
final class Model {
    static final int UNKNOWN = -1, BAD = -2, LATE = -3, FULL = -4, NONE = -9;

    static final class Jar implements Cloneable {
        int number, place, flavour, stuff, kind, size, haze, look = 1;
        boolean cracked, open;

        boolean whole() {
            return !cracked && !open;
        }

        Jar copy() {
            try {
                return (Jar) clone();
            } catch (CloneNotSupportedException e) {
                throw new IllegalStateException(e);
            }
        }
    }

    static final class State {
        final List<Jar> jars = new ArrayList<>();
        int week;

        State copy() {
            State other = new State();
            for (Jar jar : jars) {
                other.jars.add(jar.copy());
            }
            other.week = week;
            return other;
        }

        Jar at(int place) {
            for (Jar jar : jars) {
                if (!jar.open && jar.place == place) {
                    return jar;
                }
            }
            return null;
        }

        Jar find(int number) {
            for (Jar jar : jars) {
                if (jar.number == number) {
                    return jar;
                }
            }
            return null;
        }

        void passWeek() {
            for (Jar jar : jars) {
                if (!jar.whole()) {
                    continue;
                }
                if (jar.kind != 3 || week % 2 == 0) {
                    jar.flavour = ripe(jar.flavour, jar.stuff);
                }
                if (jar.kind != 2 && week % 2 == 1 && jar.haze < 9) {
                    jar.haze++;
                }
                if (jar.kind == 1) {
                    jar.look = jar.look == 3 ? 0 : jar.look + 1;
                }
            }
            week++;
        }

        int shaken() {
            int cracks = 0;
            for (Jar jar : jars) {
                if (!jar.whole()) {
                    continue;
                }
                if (jar.size < jar.haze) {
                    jar.cracked = true;
                    cracks++;
                } else if (jar.kind != 3) {
                    jar.look = jar.look == 3 ? 0 : jar.look + 1;
                }
            }
            return cracks;
        }

        int flavours() {
            int sum = 0;
            for (Jar jar : jars) {
                if (jar.whole()) {
                    sum += jar.flavour;
                }
            }
            return sum;
        }

        /** Walks place by place from the jar until somebody stands in the way. */
        Jar sees(Jar jar) {
            if (!jar.whole() || jar.look == 1 || jar.look == 3) {
                return null;
            }
            int step = jar.look - 1;
            for (int place = jar.place + step; place >= 0 && place <= 7; place += step) {
                Jar other = at(place);
                if (other != null) {
                    int haze = jar.haze + (other.cracked ? 0 : other.haze);
                    boolean clear = jar.kind == 2 || Math.abs(place - jar.place) + haze <= 9;
                    return clear ? other : null;
                }
            }
            return null;
        }

        int pairs() {
            int ends = 0;
            for (Jar jar : jars) {
                Jar other = sees(jar);
                if (other != null && sees(other) == jar) {
                    ends++;
                }
            }
            return ends / 2;
        }

        int seen() {
            List<Jar> seen = new ArrayList<>();
            for (Jar jar : jars) {
                Jar other = sees(jar);
                if (other != null && !seen.contains(other)) {
                    seen.add(other);
                }
            }
            return seen.size();
        }
    }

    private final StringBuilder text = new StringBuilder();
    private State now = new State();
    private final List<State> acts = new ArrayList<>();
    private final State[] slots = new State[2];
    private final List<int[]> tasted = new ArrayList<>();
    private long seedNow;

    static int ripe(int flavour, int stuff) {
        int[] by = {flavour == 9 ? 0 : 1, flavour == 0 ? 0 : -1, flavour < 5 ? 1 : flavour > 5 ? -1 : 0, 0};
        return flavour + by[stuff];
    }

    int write(int letter) {
        if (letter < 0 || letter > 255) {
            return BAD;
        }
        if (text.length() == 48) {
            return FULL;
        }
        text.append((char) letter);
        return text.length();
    }

    int wipe() {
        int was = text.length();
        text.setLength(0);
        return was;
    }

    /** Whether a text can go on to be a sale: it is a piece of the form, and no place comes twice. */
    private static boolean canGoOn(String piece) {
        String form = "SJ79339J79339J79339J79339J79339J79339";
        if (piece.length() > form.length()) {
            return false;
        }
        String places = "";
        for (int k = 0; k < piece.length(); k++) {
            char c = piece.charAt(k);
            char f = form.charAt(k);
            boolean figure = f >= '0' && f <= '9';
            if (!figure && c != f || figure && (c < '0' || c > f)) {
                return false;
            }
            if (k % 6 == 0 && k > 0 && c == '0') {
                return false;
            }
            if (k % 6 == 2) {
                if (places.indexOf(c) >= 0) {
                    return false;
                }
                places += c;
            }
        }
        return true;
    }

    int fault() {
        for (int length = 1; length <= text.length(); length++) {
            if (!canGoOn(text.substring(0, length))) {
                return length - 1;
            }
        }
        return text.length() % 6 == 1 ? NONE : text.length();
    }

    int sale() {
        if (fault() != NONE) {
            return LATE;
        }
        now = new State();
        String[] parts = text.toString().split("J");
        for (int k = 1; k < parts.length; k++) {
            Jar jar = new Jar();
            jar.number = k - 1;
            jar.place = parts[k].charAt(0) - '0';
            jar.flavour = parts[k].charAt(1) - '0';
            jar.stuff = parts[k].charAt(2) - '0';
            jar.kind = parts[k].charAt(3) - '0';
            jar.size = parts[k].charAt(4) - '0';
            now.jars.add(jar);
        }
        acts.clear();
        slots[0] = null;
        slots[1] = null;
        return now.jars.size();
    }

    int about(int what) {
        int whole = 0;
        int cracked = 0;
        int open = 0;
        int places = 0;
        for (Jar jar : now.jars) {
            int bit = 1 << jar.number;
            whole += jar.whole() ? bit : 0;
            cracked += jar.cracked ? bit : 0;
            open += jar.open ? bit : 0;
            places += jar.open ? 0 : 1 << jar.place;
        }
        int[] told = {now.jars.size(), now.week, whole, cracked, open, places, now.pairs(), acts.size(),
            tasted.size(), text.length()};
        return what < 0 || what >= told.length ? BAD : told[what];
    }

    private static int number(Jar jar) {
        return jar == null ? NONE : jar.number;
    }

    int jar(int number, int what) {
        Jar jar = now.find(number);
        if (jar == null) {
            return UNKNOWN;
        }
        int[] told = {jar.place, jar.flavour, jar.stuff, jar.kind, jar.size, jar.haze, jar.look,
            jar.cracked ? 1 : jar.open ? 2 : 0, number(now.sees(jar))};
        return what < 0 || what >= told.length ? BAD : told[what];
    }

    int at(int place) {
        return place < 0 || place > 7 ? UNKNOWN : number(now.at(place));
    }

    private void act() {
        acts.add(now.copy());
        if (acts.size() > 14) {
            acts.remove(0);
        }
    }

    int week() {
        act();
        now.passWeek();
        return now.flavours();
    }

    int shake() {
        act();
        return now.shaken();
    }

    int set(int number, int place) {
        Jar jar = now.find(number);
        if (jar == null || place < 0 || place > 7) {
            return UNKNOWN;
        }
        if (!jar.whole() || now.at(place) != null) {
            return LATE;
        }
        act();
        int was = jar.place;
        jar.place = place;
        return was;
    }

    int pour(int number, int stuff) {
        Jar jar = now.find(number);
        if (jar == null || stuff < 0 || stuff > 3) {
            return UNKNOWN;
        }
        if (!jar.whole() || jar.stuff == stuff) {
            return LATE;
        }
        act();
        int was = jar.stuff;
        jar.stuff = stuff;
        jar.haze = 0;
        return was;
    }

    int open(int number) {
        Jar jar = now.find(number);
        if (jar == null) {
            return UNKNOWN;
        }
        if (!jar.whole()) {
            return LATE;
        }
        act();
        jar.open = true;
        return jar.flavour;
    }

    int undo() {
        if (acts.isEmpty()) {
            return LATE;
        }
        now = acts.remove(acts.size() - 1);
        return acts.size();
    }

    private State in(int n) {
        State then = now.copy();
        for (int k = 0; k < n; k++) {
            then.passWeek();
        }
        return then;
    }

    int later(int number, int n, int what) {
        if (now.find(number) == null) {
            return UNKNOWN;
        }
        if (n < 0 || n > 20 || what < 0 || what > 1) {
            return BAD;
        }
        State then = in(n);
        Jar jar = then.find(number);
        return what == 0 ? jar.flavour : number(then.sees(jar));
    }

    int becomes(int number, int v) {
        if (now.find(number) == null) {
            return UNKNOWN;
        }
        if (v < 0 || v > 9) {
            return BAD;
        }
        if (!now.find(number).whole()) {
            return LATE;
        }
        int n = 0;
        while (n <= 20 && in(n).find(number).flavour != v) {
            n++;
        }
        return n <= 20 ? n : NONE;
    }

    int fails(int number) {
        if (now.find(number) == null) {
            return UNKNOWN;
        }
        if (!now.find(number).whole()) {
            return LATE;
        }
        for (int n = 0; n <= 20; n++) {
            State then = in(n);
            then.shaken();
            if (then.find(number).cracked) {
                return n;
            }
        }
        return NONE;
    }

    int stuff(int number, int n, int v, int what) {
        if (now.find(number) == null) {
            return UNKNOWN;
        }
        if (n < 1 || n > 12 || v < 0 || v > 9 || what < 0 || what > 1) {
            return BAD;
        }
        if (!now.find(number).whole()) {
            return LATE;
        }
        TreeMap<Integer, Integer> byNear = new TreeMap<>();
        for (int stuff = 3; stuff >= 0; stuff--) {
            Model other = new Model();
            other.now = now.copy();
            other.pour(number, stuff);
            byNear.put(Math.abs(other.later(number, n, 0) - v), stuff);
        }
        return what == 0 ? byNear.firstEntry().getValue() : byNear.firstKey();
    }

    private static void orders(List<Integer> left, List<Integer> taken, List<List<Integer>> all) {
        if (left.isEmpty()) {
            all.add(new ArrayList<>(taken));
        }
        for (Integer one : left) {
            List<Integer> rest = new ArrayList<>(left);
            rest.remove(one);
            taken.add(one);
            orders(rest, taken, all);
            taken.remove(taken.size() - 1);
        }
    }

    int row(boolean way) {
        List<Jar> movers = new ArrayList<>();
        List<Integer> places = new ArrayList<>();
        State then = now.copy();
        for (Jar jar : then.jars) {
            if (jar.whole()) {
                movers.add(jar);
                places.add(jar.place);
            }
        }
        List<List<Integer>> all = new ArrayList<>();
        orders(places, new ArrayList<>(), all);
        int most = 0;
        int least = Integer.MAX_VALUE;
        for (List<Integer> order : all) {
            String figures = "0";
            for (int k = 0; k < movers.size(); k++) {
                movers.get(k).place = order.get(k);
                figures += order.get(k) + 1;
            }
            int pairs = then.pairs();
            int told = Integer.parseInt(figures);
            if (pairs > most || pairs == most && told < least) {
                most = pairs;
                least = told;
            }
        }
        return way ? least : most;
    }

    int judge(int n, long row) {
        if (n < 1 || n > 4 || row < 0 || Long.toString(row).length() > 3 * n) {
            return BAD;
        }
        String figures = Long.toString(row);
        while (figures.length() < 3 * n) {
            figures = "0" + figures;
        }
        Model other = new Model();
        other.now = now.copy();
        for (int k = 0; k < n; k++) {
            if (!other.does(figures.substring(3 * k, 3 * k + 3))) {
                return k;
            }
        }
        return NONE;
    }

    private boolean does(String doing) {
        int first = doing.charAt(1) - '0';
        int second = doing.charAt(2) - '0';
        if (doing.equals("000")) {
            return week() >= 0;
        }
        if (doing.equals("100")) {
            return shake() >= 0;
        }
        switch (doing.charAt(0)) {
            case '2': return set(first, second) >= 0;
            case '3': return pour(first, second) >= 0;
            case '4': return first == 0 && open(second) >= 0;
            case '5': return jar(first, 8) == second;
            case '6': return jar(first, 7) == 0 && jar(first, 1) == second;
            default: return false;
        }
    }

    private static int told(BigInteger above, BigInteger below, boolean upper) {
        BigInteger common = above.gcd(below);
        return (upper ? above : below).divide(common).intValueExact();
    }

    int share(int number, boolean upper) {
        if (now.find(number) == null) {
            return UNKNOWN;
        }
        List<Integer> numbers = new ArrayList<>();
        for (Jar jar : now.jars) {
            numbers.add(jar.number);
        }
        List<List<Integer>> all = new ArrayList<>();
        orders(numbers, new ArrayList<>(), all);
        int sum = 0;
        for (List<Integer> order : all) {
            State come = new State();
            for (Integer one : order) {
                int before = come.seen();
                come.jars.add(now.find(one));
                if (one == number) {
                    sum += come.seen() - before;
                    break;
                }
            }
        }
        return told(BigInteger.valueOf(sum), BigInteger.valueOf(all.size()), upper);
    }

    int taste(int f, int v) {
        if (f < 0 || f > 9 || v < 0 || v > 9) {
            return BAD;
        }
        if (tasted.size() == 6) {
            return FULL;
        }
        tasted.add(new int[] {f, v});
        return tasted.size();
    }

    int untaste() {
        int was = tasted.size();
        tasted.clear();
        return was;
    }

    int kept(int what) {
        if (what < 0 || what > 1) {
            return BAD;
        }
        List<Integer> ways = new ArrayList<>();
        for (int stuff = 0; stuff < 4; stuff++) {
            for (int weeks = 0; weeks < 10; weeks++) {
                boolean so = true;
                for (int[] one : tasted) {
                    int flavour = one[0];
                    for (int k = 0; k < weeks; k++) {
                        flavour = ripe(flavour, stuff);
                    }
                    so = so && flavour == one[1];
                }
                if (so) {
                    ways.add(10 * stuff + weeks);
                }
            }
        }
        return what == 0 ? ways.size() : ways.isEmpty() ? NONE : ways.get(0);
    }

    private int has(int mine, int other, int myLook, int otherLook) {
        State then = now.copy();
        Jar me = then.find(mine);
        Jar you = then.find(other);
        me.look = myLook;
        you.look = otherLook;
        return (then.sees(me) == you ? 3 : 0) + (then.sees(you) == me ? 0 : 1) + (myLook == 1 ? 1 : 0);
    }

    int rests(int one, int other, int what) {
        if (now.find(one) == null || now.find(other) == null) {
            return UNKNOWN;
        }
        if (one == other || what < 0 || what > 1) {
            return BAD;
        }
        if (!now.find(one).whole() || !now.find(other).whole()) {
            return LATE;
        }
        List<Integer> rests = new ArrayList<>();
        for (int a = 0; a < 4; a++) {
            for (int b = 0; b < 4; b++) {
                boolean rest = true;
                for (int c = 0; c < 4; c++) {
                    rest = rest && has(one, other, c, b) <= has(one, other, a, b);
                    rest = rest && has(other, one, c, a) <= has(other, one, b, a);
                }
                if (rest) {
                    rests.add(10 * a + b);
                }
            }
        }
        return what == 0 ? rests.size() : rests.isEmpty() ? NONE : rests.get(0);
    }

    /** Opens or leaves one jar after the other, in tenths. */
    private BigInteger chance(State then, int from, int m, int x) {
        if (from == then.jars.size()) {
            return then.pairs() >= m ? BigInteger.ONE : BigInteger.ZERO;
        }
        Jar jar = then.jars.get(from);
        if (!jar.whole()) {
            return chance(then, from + 1, m, x);
        }
        BigInteger left = chance(then, from + 1, m, x).multiply(BigInteger.valueOf(10 - x));
        jar.open = true;
        BigInteger gone = chance(then, from + 1, m, x).multiply(BigInteger.valueOf(x));
        jar.open = false;
        return left.add(gone);
    }

    int papers(int m, int x, boolean upper) {
        if (m < 0 || m > 3 || x < 0 || x > 10) {
            return BAD;
        }
        int whole = Integer.bitCount(about(2));
        return told(chance(now.copy(), 0, m, x), BigInteger.TEN.pow(whole), upper);
    }

    long seed(long v) {
        long was = seedNow;
        seedNow = v;
        return was;
    }

    int years(int m) {
        if (m < 1 || m > 30) {
            return BAD;
        }
        Model other = new Model();
        other.now = now.copy();
        int sum = 0;
        for (int k = 0; k < m; k++) {
            seedNow = BigInteger.valueOf(seedNow).multiply(BigInteger.valueOf(6364136223846793005L))
                .add(BigInteger.valueOf(1442695040888963407L)).longValue();
            int chance = Integer.remainderUnsigned((int) (seedNow >>> 33), 32);
            if (chance < 24) {
                other.pour(chance / 4, chance % 4);
            } else if (chance > 24) {
                other.week();
            } else {
                other.shake();
            }
            sum += other.now.flavours();
        }
        return sum;
    }

    int keep(int slot) {
        if (slot != 0 && slot != 1) {
            return UNKNOWN;
        }
        slots[slot] = now.copy();
        return now.week;
    }

    int again(int slot) {
        if (slot != 0 && slot != 1) {
            return UNKNOWN;
        }
        if (slots[slot] == null) {
            return LATE;
        }
        now = slots[slot].copy();
        acts.clear();
        return now.week;
    }
}
