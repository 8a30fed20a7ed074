/**
 * Persons kept in jars on a shelf: a sale told as a text, acts that can be undone,
 * and what is to be known of weeks to come without changing anything.
 */
public final class GreenJars {
    public static final int UNKNOWN = -1, BAD = -2, LATE = -3, FULL = -4, NONE = -9;

    private static final int PLACES = 8;
    private static final int JARS = 6;
    private static final int STUFFS = 4;
    private static final int LOOKS = 4;
    private static final int MOST = 9;
    private static final int FAIR = 5;

    private static final int SYRUP = 0, VINEGAR = 1, BRANDY = 2;
    private static final int TURNER = 1, SEER = 2, COLONEL = 3;
    private static final int LEFT = 0, OUT = 1, RIGHT = 2;
    private static final int WHOLE = 0, CRACKED = 1, OPENED = 2;

    // The parts of a jar stand in the order in which the call jar tells them.
    private static final int PLACE = 0, FLAVOUR = 1, STUFF = 2, KIND = 3, SIZE = 4, HAZE = 5, LOOK = 6, STATE = 7;
    private static final int PARTS = 8;
    private static final int SEEN = 8;

    private static final int TEXT_MOST = 48;
    private static final int ACTS_MOST = 14;
    private static final int SLOTS = 2;
    private static final int TASTES_MOST = 6;
    private static final int WEEKS_AHEAD = 20;
    private static final int STUFF_WEEKS = 12;
    private static final int KEPT_WEEKS = 10;
    private static final int DOINGS_MOST = 4;
    private static final int PAIRS_MOST = 3;
    private static final int TENTHS = 10;
    private static final int YEARS_MOST = 30;

    private static final long SEED_TIMES = 6364136223846793005L;
    private static final long SEED_MORE = 1442695040888963407L;

    private static final int[] ORDERS = {1, 1, 2, 6, 24, 120, 720};

    private final Text text = new Text();
    private final Shelf now = new Shelf();
    private final Shelf trial = new Shelf();
    private final Acts acts = new Acts();
    private final Slots slots = new Slots();
    private final Tastes tastes = new Tastes();
    private final Ways ways = new Ways();
    private final Fraction fraction = new Fraction();
    private long seedNow = 0L;

    public GreenJars() {
    }

    // ---- the sale

    public int write(int letter) {
        if (letter < 0 || letter > 255) {
            return BAD;
        }
        return text.add(letter) ? text.length() : FULL;
    }

    public int wipe() {
        int was = text.length();
        text.clear();
        return was;
    }

    public int fault() {
        return text.firstFault();
    }

    public int sale() {
        if (text.firstFault() != NONE) {
            return LATE;
        }
        text.fillShelf(now);
        acts.forget();
        slots.forget();
        return now.jars();
    }

    public int about(int what) {
        switch (what) {
            case 0: return now.jars();
            case 1: return now.weeks();
            case 2: return now.bitsOf(WHOLE);
            case 3: return now.bitsOf(CRACKED);
            case 4: return now.bitsOf(OPENED);
            case 5: return now.placesTaken();
            case 6: return now.pairs();
            case 7: return acts.count();
            case 8: return tastes.count();
            case 9: return text.length();
            default: return BAD;
        }
    }

    public int jar(int jar, int what) {
        if (!now.has(jar)) {
            return UNKNOWN;
        }
        if (what < 0 || what > SEEN) {
            return BAD;
        }
        return what == SEEN ? now.seenBy(jar) : now.part(jar, what);
    }

    public int at(int place) {
        return isPlace(place) ? now.jarOn(place) : UNKNOWN;
    }

    // ---- acts

    public int week() {
        acts.remember(now);
        now.passWeek();
        return now.flavours();
    }

    public int shake() {
        acts.remember(now);
        return now.rattle();
    }

    public int set(int jar, int place) {
        if (!now.has(jar) || !isPlace(place)) {
            return UNKNOWN;
        }
        if (!now.canStand(jar, place)) {
            return LATE;
        }
        acts.remember(now);
        int was = now.part(jar, PLACE);
        now.stand(jar, place);
        return was;
    }

    public int pour(int jar, int stuff) {
        if (!now.has(jar) || !isStuff(stuff)) {
            return UNKNOWN;
        }
        if (!now.canFill(jar, stuff)) {
            return LATE;
        }
        acts.remember(now);
        int was = now.part(jar, STUFF);
        now.fill(jar, stuff);
        return was;
    }

    public int open(int jar) {
        if (!now.has(jar)) {
            return UNKNOWN;
        }
        if (!now.isWhole(jar)) {
            return LATE;
        }
        acts.remember(now);
        now.letOut(jar);
        return now.part(jar, FLAVOUR);
    }

    public int undo() {
        return acts.takeBack(now) ? acts.count() : LATE;
    }

    // ---- weeks to come

    public int later(int jar, int n, int what) {
        if (!now.has(jar)) {
            return UNKNOWN;
        }
        if (n < 0 || n > WEEKS_AHEAD || what < 0 || what > 1) {
            return BAD;
        }
        trial.copy(now);
        trial.passWeeks(n);
        return what == 0 ? trial.part(jar, FLAVOUR) : trial.seenBy(jar);
    }

    public int becomes(int jar, int v) {
        if (!now.has(jar)) {
            return UNKNOWN;
        }
        if (!isFigure(v)) {
            return BAD;
        }
        if (!now.isWhole(jar)) {
            return LATE;
        }
        trial.copy(now);
        for (int n = 0; n <= WEEKS_AHEAD; n++) {
            if (trial.part(jar, FLAVOUR) == v) {
                return n;
            }
            trial.passWeek();
        }
        return NONE;
    }

    public int fails(int jar) {
        if (!now.has(jar)) {
            return UNKNOWN;
        }
        if (!now.isWhole(jar)) {
            return LATE;
        }
        trial.copy(now);
        for (int n = 0; n <= WEEKS_AHEAD; n++) {
            if (trial.wouldCrack(jar)) {
                return n;
            }
            trial.passWeek();
        }
        return NONE;
    }

    public int stuff(int jar, int n, int v, int what) {
        if (!now.has(jar)) {
            return UNKNOWN;
        }
        if (n < 1 || n > STUFF_WEEKS || !isFigure(v) || what < 0 || what > 1) {
            return BAD;
        }
        if (!now.isWhole(jar)) {
            return LATE;
        }
        int best = 0;
        int least = distanceIn(jar, 0, n, v);
        for (int stuff = 1; stuff < STUFFS; stuff++) {
            int near = distanceIn(jar, stuff, n, v);
            if (near < least) {
                best = stuff;
                least = near;
            }
        }
        return what == 0 ? best : least;
    }

    private int distanceIn(int jar, int stuff, int n, int v) {
        trial.copy(now);
        trial.fill(jar, stuff);
        trial.passWeeks(n);
        return Math.abs(trial.part(jar, FLAVOUR) - v);
    }

    public int row(boolean way) {
        trial.copy(now);
        ways.search(trial);
        return way ? ways.figures() : ways.most();
    }

    public int judge(int n, long row) {
        if (n < 1 || n > DOINGS_MOST || row < 0L || without(row, n) != 0L) {
            return BAD;
        }
        trial.copy(now);
        for (int k = 0; k < n; k++) {
            int doing = (int) (without(row, n - 1 - k) % 1000L);
            if (!trialDoes(doing / 100, doing / 10 % 10, doing % 10)) {
                return k;
            }
        }
        return NONE;
    }

    private static long without(long row, int doings) {
        long rest = row;
        for (int k = 0; k < doings; k++) {
            rest /= 1000L;
        }
        return rest;
    }

    private boolean trialDoes(int doing, int first, int second) {
        switch (doing) {
            case 0: return first == 0 && second == 0 && trial.tryWeek();
            case 1: return first == 0 && second == 0 && trial.tryShake();
            case 2: return trial.tryStand(first, second);
            case 3: return trial.tryFill(first, second);
            case 4: return first == 0 && trial.tryLetOut(second);
            case 5: return trial.has(second) && trial.seenBy(first) == second;
            case 6: return trial.isWhole(first) && trial.part(first, FLAVOUR) == second;
            default: return false;
        }
    }

    public int share(int jar, boolean upper) {
        if (!now.has(jar)) {
            return UNKNOWN;
        }
        int jars = now.jars();
        int all = (1 << jars) - 1;
        int self = 1 << jar;
        int sum = 0;
        for (int come = 0; come <= all; come++) {
            if ((come & self) == 0) {
                int before = Integer.bitCount(come);
                int more = seenAmong(come | self) - seenAmong(come);
                sum += more * ordersOf(before) * ordersOf(jars - 1 - before);
            }
        }
        fraction.make(sum, ordersOf(jars));
        return fraction.told(upper);
    }

    private int seenAmong(int come) {
        trial.copyWithout(now, ~come);
        return trial.countSeen();
    }

    // ---- tasted

    public int taste(int f, int v) {
        if (!isFigure(f) || !isFigure(v)) {
            return BAD;
        }
        return tastes.add(f, v) ? tastes.count() : FULL;
    }

    public int untaste() {
        int was = tastes.count();
        tastes.clear();
        return was;
    }

    public int kept(int what) {
        if (what < 0 || what > 1) {
            return BAD;
        }
        return what == 0 ? tastes.countFits() : tastes.firstFit();
    }

    // ---- rests, chances

    public int rests(int one, int other, int what) {
        if (!now.has(one) || !now.has(other)) {
            return UNKNOWN;
        }
        if (one == other || what < 0 || what > 1) {
            return BAD;
        }
        if (!now.isWhole(one) || !now.isWhole(other)) {
            return LATE;
        }
        int oneSees = looksThatSee(one, other);
        int otherSees = looksThatSee(other, one);
        int count = 0;
        int first = NONE;
        for (int pair = 0; pair < LOOKS * LOOKS; pair++) {
            int a = pair / LOOKS;
            int b = pair % LOOKS;
            if (isBest(oneSees, a, isIn(otherSees, b)) && isBest(otherSees, b, isIn(oneSees, a))) {
                first = count == 0 ? 10 * a + b : first;
                count++;
            }
        }
        return what == 0 ? count : first;
    }

    private int looksThatSee(int jar, int other) {
        int looks = 0;
        trial.copy(now);
        for (int look = 0; look < LOOKS; look++) {
            trial.turn(jar, look);
            if (trial.seenBy(jar) == other) {
                looks |= 1 << look;
            }
        }
        return looks;
    }

    private static boolean isBest(int sees, int look, boolean isSeen) {
        int has = points(isIn(sees, look), isSeen, look);
        for (int another = 0; another < LOOKS; another++) {
            if (points(isIn(sees, another), isSeen, another) > has) {
                return false;
            }
        }
        return true;
    }

    private static int points(boolean sees, boolean isSeen, int look) {
        return (sees ? 3 : 0) + (isSeen ? 0 : 1) + (look == OUT ? 1 : 0);
    }

    public int papers(int m, int x, boolean upper) {
        if (m < 0 || m > PAIRS_MOST || x < 0 || x > TENTHS) {
            return BAD;
        }
        int whole = now.bitsOf(WHOLE);
        int wholes = Integer.bitCount(whole);
        int sum = 0;
        for (int gone = 0; gone <= whole; gone++) {
            if ((gone & ~whole) == 0 && pairsWithout(gone) >= m) {
                int opened = Integer.bitCount(gone);
                sum += power(x, opened) * power(TENTHS - x, wholes - opened);
            }
        }
        fraction.make(sum, power(TENTHS, wholes));
        return fraction.told(upper);
    }

    private int pairsWithout(int gone) {
        trial.copyWithout(now, gone);
        return trial.pairs();
    }

    public long seed(long v) {
        long was = seedNow;
        seedNow = v;
        return was;
    }

    public int years(int m) {
        if (m < 1 || m > YEARS_MOST) {
            return BAD;
        }
        trial.copy(now);
        int together = 0;
        for (int k = 0; k < m; k++) {
            seedNow = seedNow * SEED_TIMES + SEED_MORE;
            trialByChance((int) ((seedNow >>> 33) % 32L));
            together += trial.flavours();
        }
        return together;
    }

    private void trialByChance(int chance) {
        if (chance < JARS * STUFFS) {
            trial.tryFill(chance / STUFFS, chance % STUFFS);
        } else if (chance == JARS * STUFFS) {
            trial.rattle();
        } else {
            trial.passWeek();
        }
    }

    // ---- slots

    public int keep(int slot) {
        if (slot < 0 || slot >= SLOTS) {
            return UNKNOWN;
        }
        slots.store(slot, now);
        return now.weeks();
    }

    public int again(int slot) {
        if (slot < 0 || slot >= SLOTS) {
            return UNKNOWN;
        }
        if (!slots.fetch(slot, now)) {
            return LATE;
        }
        acts.forget();
        return now.weeks();
    }

    // ---- figures

    private static boolean isFigure(int v) {
        return v >= 0 && v <= MOST;
    }

    private static boolean isPlace(int place) {
        return place >= 0 && place < PLACES;
    }

    private static boolean isStuff(int stuff) {
        return stuff >= 0 && stuff < STUFFS;
    }

    private static boolean isIn(int bits, int bit) {
        return ((bits >> bit) & 1) != 0;
    }

    private static int ordersOf(int count) {
        return count >= 0 && count < ORDERS.length ? ORDERS[count] : 0;
    }

    private static int power(int base, int times) {
        int product = 1;
        for (int k = 0; k < times; k++) {
            product *= base;
        }
        return product;
    }

    private static int ripened(int flavour, int stuff) {
        switch (stuff) {
            case SYRUP: return Math.min(flavour + 1, MOST);
            case VINEGAR: return Math.max(flavour - 1, 0);
            case BRANDY: return flavour + Integer.compare(FAIR, flavour);
            default: return flavour;
        }
    }

    /** The text of a sale, as it is written byte by byte. */
    private static final class Text {
        private static final int JAR_BYTES = 6;

        private final int[] bytes = new int[TEXT_MOST];
        private int length = 0;

        int length() {
            return length;
        }

        void clear() {
            length = 0;
        }

        boolean add(int letter) {
            if (length >= TEXT_MOST) {
                return false;
            }
            bytes[length] = letter;
            length++;
            return true;
        }

        int firstFault() {
            int places = 0;
            for (int k = 0; k < length; k++) {
                if (!canBe(k, places)) {
                    return k;
                }
                if (columnOf(k) == 1) {
                    places |= 1 << figure(k);
                }
            }
            return length % JAR_BYTES == 1 ? NONE : length;
        }

        // Column 0 is the J of a jar; the S ahead of all jars has none.
        private static int columnOf(int k) {
            return k < 1 ? NONE : (k - 1) % JAR_BYTES;
        }

        private boolean canBe(int k, int places) {
            if (k > JARS * JAR_BYTES) {
                return false;
            }
            int figure = figure(k);
            switch (columnOf(k)) {
                case NONE: return letter(k) == 'S';
                case 0: return letter(k) == 'J';
                case 1: return isPlace(figure) && !isIn(places, figure);
                case 2: return isFigure(figure);
                case 3: return isStuff(figure);
                case 4: return figure >= 0 && figure <= COLONEL;
                default: return figure >= 1 && figure <= MOST;
            }
        }

        private int letter(int k) {
            return k >= 0 && k < length && k < TEXT_MOST ? bytes[k] : NONE;
        }

        private int figure(int k) {
            return letter(k) - '0';
        }

        void fillShelf(Shelf shelf) {
            shelf.clear();
            for (int k = 1; k + JAR_BYTES <= length; k += JAR_BYTES) {
                shelf.add(figure(k + 1), figure(k + 2), figure(k + 3), figure(k + 4), figure(k + 5));
            }
        }
    }

    /** All that weeks and acts change, together with what the sale has fixed. */
    private static final class Shelf {
        private static final int CELLS = JARS * PARTS;
        private static final int ROW = CELLS + 1;

        private final int[] cells = new int[CELLS];
        private final int[] standing = new int[PLACES];
        private int jars = 0;
        private int weeks = 0;

        int jars() {
            return jars;
        }

        int weeks() {
            return weeks;
        }

        boolean has(int jar) {
            return jar >= 0 && jar < jars;
        }

        int part(int jar, int part) {
            if (jar < 0 || jar >= JARS || part < 0 || part >= PARTS) {
                return 0;
            }
            return cells[jar * PARTS + part];
        }

        private void put(int jar, int part, int value) {
            if (jar >= 0 && jar < JARS && part >= 0 && part < PARTS) {
                cells[jar * PARTS + part] = value;
            }
        }

        boolean isWhole(int jar) {
            return has(jar) && part(jar, STATE) == WHOLE;
        }

        void clear() {
            jars = 0;
            weeks = 0;
        }

        void add(int place, int flavour, int stuff, int kind, int size) {
            if (jars >= JARS) {
                return;
            }
            put(jars, PLACE, place);
            put(jars, FLAVOUR, flavour);
            put(jars, STUFF, stuff);
            put(jars, KIND, kind);
            put(jars, SIZE, size);
            put(jars, HAZE, 0);
            put(jars, LOOK, OUT);
            put(jars, STATE, WHOLE);
            jars++;
        }

        void copy(Shelf from) {
            System.arraycopy(from.cells, 0, cells, 0, CELLS);
            jars = from.jars;
            weeks = from.weeks;
        }

        // How many jars there are is left out of a row: only a sale changes it, and no row outlives a sale.
        void storeIn(int[] row) {
            if (row.length >= ROW) {
                System.arraycopy(cells, 0, row, 0, CELLS);
                row[CELLS] = weeks;
            }
        }

        void fetchFrom(int[] row) {
            if (row.length >= ROW) {
                System.arraycopy(row, 0, cells, 0, CELLS);
                weeks = row[CELLS];
            }
        }

        // A jar that is not there is like one that is open: it neither sees, nor is seen, nor hides another.
        void copyWithout(Shelf from, int gone) {
            copy(from);
            for (int jar = 0; jar < jars; jar++) {
                if (isIn(gone, jar)) {
                    put(jar, STATE, OPENED);
                }
            }
        }

        void passWeeks(int n) {
            for (int k = 0; k < n; k++) {
                passWeek();
            }
        }

        void passWeek() {
            boolean even = weeks % 2 == 0;
            for (int jar = 0; jar < jars; jar++) {
                if (isWhole(jar)) {
                    passWeekIn(jar, even);
                }
            }
            weeks++;
        }

        private void passWeekIn(int jar, boolean even) {
            int kind = part(jar, KIND);
            if (even || kind != COLONEL) {
                put(jar, FLAVOUR, ripened(part(jar, FLAVOUR), part(jar, STUFF)));
            }
            if (!even && kind != SEER) {
                put(jar, HAZE, Math.min(part(jar, HAZE) + 1, MOST));
            }
            if (kind == TURNER) {
                lookOn(jar);
            }
        }

        private void lookOn(int jar) {
            put(jar, LOOK, (part(jar, LOOK) + 1) % LOOKS);
        }

        int rattle() {
            int cracks = 0;
            for (int jar = 0; jar < jars; jar++) {
                if (wouldCrack(jar)) {
                    put(jar, STATE, CRACKED);
                    cracks++;
                } else if (isWhole(jar) && part(jar, KIND) != COLONEL) {
                    lookOn(jar);
                }
            }
            return cracks;
        }

        boolean wouldCrack(int jar) {
            return isWhole(jar) && part(jar, SIZE) < part(jar, HAZE);
        }

        boolean canStand(int jar, int place) {
            return isWhole(jar) && isPlace(place) && jarOn(place) == NONE;
        }

        void stand(int jar, int place) {
            put(jar, PLACE, place);
        }

        boolean canFill(int jar, int stuff) {
            return isWhole(jar) && isStuff(stuff) && part(jar, STUFF) != stuff;
        }

        void fill(int jar, int stuff) {
            put(jar, STUFF, stuff);
            put(jar, HAZE, 0);
        }

        void letOut(int jar) {
            put(jar, STATE, OPENED);
        }

        void turn(int jar, int look) {
            put(jar, LOOK, look);
        }

        boolean tryWeek() {
            passWeek();
            return true;
        }

        boolean tryShake() {
            rattle();
            return true;
        }

        boolean tryStand(int jar, int place) {
            boolean can = canStand(jar, place);
            if (can) {
                stand(jar, place);
            }
            return can;
        }

        boolean tryFill(int jar, int stuff) {
            boolean can = canFill(jar, stuff);
            if (can) {
                fill(jar, stuff);
            }
            return can;
        }

        boolean tryLetOut(int jar) {
            boolean can = isWhole(jar);
            if (can) {
                letOut(jar);
            }
            return can;
        }

        int jarOn(int place) {
            for (int jar = 0; jar < jars; jar++) {
                if (part(jar, PLACE) == place && part(jar, STATE) != OPENED) {
                    return jar;
                }
            }
            return NONE;
        }

        int bitsOf(int state) {
            int bits = 0;
            for (int jar = 0; jar < jars; jar++) {
                if (part(jar, STATE) == state) {
                    bits |= 1 << jar;
                }
            }
            return bits;
        }

        int placesTaken() {
            int bits = 0;
            for (int jar = 0; jar < jars; jar++) {
                if (part(jar, STATE) != OPENED) {
                    bits |= 1 << part(jar, PLACE);
                }
            }
            return bits;
        }

        int flavours() {
            int sum = 0;
            for (int jar = 0; jar < jars; jar++) {
                sum += isWhole(jar) ? part(jar, FLAVOUR) : 0;
            }
            return sum;
        }

        int seenBy(int jar) {
            int look = part(jar, LOOK);
            if (!isWhole(jar) || look != LEFT && look != RIGHT) {
                return NONE;
            }
            int other = nearest(jar, look == LEFT ? -1 : 1);
            return other != NONE && isClear(jar, other) ? other : NONE;
        }

        private int nearest(int jar, int way) {
            int found = NONE;
            int least = PLACES;
            for (int other = 0; other < jars; other++) {
                int away = (part(other, PLACE) - part(jar, PLACE)) * way;
                if (away > 0 && away < least && part(other, STATE) != OPENED) {
                    found = other;
                    least = away;
                }
            }
            return found;
        }

        private boolean isClear(int jar, int other) {
            if (part(jar, KIND) == SEER) {
                return true;
            }
            int away = Math.abs(part(other, PLACE) - part(jar, PLACE));
            // A cracked jar keeps the haze that it had, but it hides nothing any more.
            int otherHaze = part(other, STATE) == CRACKED ? 0 : part(other, HAZE);
            return away <= MOST - part(jar, HAZE) - otherHaze;
        }

        // Only neighbours can see one another, so one walk along the places meets every pair.
        int pairs() {
            fillStanding();
            int count = 0;
            int last = NONE;
            for (int place = 0; place < PLACES; place++) {
                int jar = standing[place];
                if (jar != NONE) {
                    count += last != NONE && areFacing(last, jar) ? 1 : 0;
                    last = jar;
                }
            }
            return count;
        }

        private void fillStanding() {
            for (int place = 0; place < PLACES; place++) {
                standing[place] = NONE;
            }
            for (int jar = 0; jar < jars; jar++) {
                int place = part(jar, PLACE);
                if (isPlace(place) && part(jar, STATE) != OPENED) {
                    standing[place] = jar;
                }
            }
        }

        private boolean areFacing(int left, int right) {
            return part(left, LOOK) == RIGHT && part(right, LOOK) == LEFT
                && isWhole(left) && isWhole(right)
                && isClear(left, right) && isClear(right, left);
        }

        int countLooking(int look) {
            int count = 0;
            for (int jar = 0; jar < jars; jar++) {
                count += isWhole(jar) && part(jar, LOOK) == look ? 1 : 0;
            }
            return count;
        }

        int countSeen() {
            int seen = 0;
            for (int jar = 0; jar < jars; jar++) {
                int other = seenBy(jar);
                seen |= other == NONE ? 0 : 1 << other;
            }
            return Integer.bitCount(seen);
        }
    }

    /** The shelf as it was ahead of each act; the rows go round, so that the first act is forgotten by itself. */
    private static final class Acts {
        private final int[][] before = new int[ACTS_MOST][Shelf.ROW];
        private int count = 0;
        private int next = 0;

        int count() {
            return count;
        }

        void forget() {
            count = 0;
        }

        void remember(Shelf shelf) {
            shelf.storeIn(before[next]);
            next = (next + 1) % ACTS_MOST;
            count = Math.min(count + 1, ACTS_MOST);
        }

        boolean takeBack(Shelf shelf) {
            if (count == 0) {
                return false;
            }
            next = (next + ACTS_MOST - 1) % ACTS_MOST;
            count--;
            shelf.fetchFrom(before[next]);
            return true;
        }
    }

    /** Shelves that are kept to go on from. */
    private static final class Slots {
        private final int[][] rows = new int[SLOTS][Shelf.ROW];
        private final boolean[] filled = new boolean[SLOTS];

        void forget() {
            for (int slot = 0; slot < SLOTS; slot++) {
                filled[slot] = false;
            }
        }

        void store(int slot, Shelf shelf) {
            if (slot >= 0 && slot < SLOTS) {
                shelf.storeIn(rows[slot]);
                filled[slot] = true;
            }
        }

        boolean fetch(int slot, Shelf shelf) {
            if (slot < 0 || slot >= SLOTS || !filled[slot]) {
                return false;
            }
            shelf.fetchFrom(rows[slot]);
            return true;
        }
    }

    /** What came out of jars of which nobody knows what they were kept in. */
    private static final class Tastes {
        private final int[] went = new int[TASTES_MOST];
        private final int[] came = new int[TASTES_MOST];
        private int count = 0;

        int count() {
            return count;
        }

        void clear() {
            count = 0;
        }

        boolean add(int f, int v) {
            if (count >= TASTES_MOST) {
                return false;
            }
            went[count] = f;
            came[count] = v;
            count++;
            return true;
        }

        int countFits() {
            int sum = 0;
            for (int way = 0; way < STUFFS * KEPT_WEEKS; way++) {
                sum += fits(way) ? 1 : 0;
            }
            return sum;
        }

        int firstFit() {
            for (int way = 0; way < STUFFS * KEPT_WEEKS; way++) {
                if (fits(way)) {
                    return way;
                }
            }
            return NONE;
        }

        // A way is 10 times the stuff and the weeks, as it is told.
        private boolean fits(int way) {
            for (int k = 0; k < count && k < TASTES_MOST; k++) {
                if (outOf(went[k], way / KEPT_WEEKS, way % KEPT_WEEKS) != came[k]) {
                    return false;
                }
            }
            return true;
        }

        private static int outOf(int flavour, int stuff, int weeks) {
            int out = flavour;
            for (int k = 0; k < weeks; k++) {
                out = ripened(out, stuff);
            }
            return out;
        }
    }

    /** All ways in which the whole jars can change places among themselves, least figures first. */
    private static final class Ways {
        private static final int WAYS_MOST = 720;

        private final int[] movers = new int[JARS];
        private final int[] spots = new int[JARS];
        private int count = 0;
        private int most = 0;
        private int figures = 0;

        int most() {
            return most;
        }

        int figures() {
            return figures;
        }

        void search(Shelf shelf) {
            gather(shelf);
            // Each pair needs one that looks right and one that looks left, so beyond this no way can come.
            int bound = Math.min(shelf.countLooking(LEFT), shelf.countLooking(RIGHT));
            most = NONE;
            boolean more = true;
            for (int k = 0; k < WAYS_MOST && more; k++) {
                consider(shelf);
                more = most < bound && nextWay();
            }
        }

        private void gather(Shelf shelf) {
            count = 0;
            for (int jar = 0; jar < shelf.jars() && count < JARS; jar++) {
                if (shelf.isWhole(jar)) {
                    movers[count] = jar;
                    count++;
                }
            }
            // Going by places leaves the spots in rising order: the least way, from which the others follow.
            int found = 0;
            for (int place = 0; place < PLACES && found < JARS; place++) {
                if (shelf.isWhole(shelf.jarOn(place))) {
                    spots[found] = place;
                    found++;
                }
            }
        }

        private void consider(Shelf shelf) {
            int told = 0;
            for (int k = 0; k < count; k++) {
                shelf.stand(movers[k], spots[k]);
                told = told * 10 + spots[k] + 1;
            }
            int pairs = shelf.pairs();
            if (pairs > most) {
                most = pairs;
                figures = told;
            }
        }

        private boolean nextWay() {
            int low = count - 2;
            while (low >= 0 && spots[low] > spots[low + 1]) {
                low--;
            }
            if (low < 0) {
                return false;
            }
            int high = count - 1;
            while (high > low && spots[high] < spots[low]) {
                high--;
            }
            swap(low, high);
            int left = low + 1;
            for (int right = count - 1; left < right; right--) {
                swap(left, right);
                left++;
            }
            return true;
        }

        private void swap(int a, int b) {
            int spot = spots[a];
            spots[a] = spots[b];
            spots[b] = spot;
        }
    }

    /** A fraction in least terms, with what is less than 0 told above. */
    private static final class Fraction {
        // Far more than the terms of an int can need.
        private static final int STEPS_MOST = 1000;

        private int above = 0;
        private int below = 1;

        void make(int upper, int lower) {
            int common = commonOf(Math.abs(upper), lower);
            above = common > 0 ? upper / common : upper;
            below = common > 0 ? lower / common : lower;
        }

        int told(boolean upper) {
            return upper ? above : below;
        }

        private static int commonOf(int one, int other) {
            int a = one;
            int b = other;
            for (int k = 0; k < STEPS_MOST && b > 0; k++) {
                int left = a % b;
                a = b;
                b = left;
            }
            return a;
        }
    }
}
