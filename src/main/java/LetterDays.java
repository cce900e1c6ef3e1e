/**
 * Undated letters between the days of their stamps, and notes about them.
 *
 * Every note bounds a day, asks for a day of the week, or bounds the difference of two days. So the
 * lesser (and the greater) day of each letter in two ways makes a way again: where there is a way at
 * all, the letters' least days together are one, and so are their greatest days. All answers about
 * days rest on that.
 */
public final class LetterDays {
    public static final int UNKNOWN = -1, OUTSIDE = -2, STATE = -3, FULL = -4, NONE = -9;

    private static final int LETTERS = 8, NOTES = 10, BUNDLES = 3, DAYS = 200, WEEK = 7;
    private static final int ANSWER = 0, NEAR = 1, EVENT = 2, UNTIL = 3, WEEKDAY = 4;
    private static final int GREATEST_SPAN = 99, GREATEST_WEIGHT = 9, GAP_OFFSET = 1000;

    private final Letters letters;
    private final Notes notes;
    private final Ways ways;
    private final Knots knots;
    private final Orders rows;
    private final Bundle[] bundles;

    public LetterDays() {
        letters = new Letters();
        notes = new Notes();
        ways = new Ways(letters, notes);
        knots = new Knots(letters, notes);
        rows = new Orders();
        bundles = new Bundle[BUNDLES];
        for (int k = 0; k < BUNDLES; k++) {
            bundles[k] = new Bundle();
        }
    }

    // ---- 1 letters, notes

    public int letter(int first, int last) {
        if (!isStamp(first, last)) {
            return OUTSIDE;
        }
        if (letters.count >= LETTERS) {
            return FULL;
        }
        int a = letters.count;
        letters.count = a + 1;
        letters.first[a] = first;
        letters.last[a] = last;
        forgetAnswers();
        return a;
    }

    public int stamp(int a, int first, int last) {
        if (!letters.has(a)) {
            return UNKNOWN;
        }
        if (!isStamp(first, last)) {
            return OUTSIDE;
        }
        int before = letters.first[a];
        letters.first[a] = first;
        letters.last[a] = last;
        forgetAnswers();
        return before;
    }

    public int note(int sort, int a, int b, int d, int weight) {
        if (sort < ANSWER || sort > WEEKDAY) {
            return OUTSIDE;
        }
        if (!letters.has(a) || !letters.has(b) || isOfTwo(sort) == (a == b)) {
            return UNKNOWN;
        }
        if (d < 0 || d > greatestNumber(sort) || weight < 1 || weight > GREATEST_WEIGHT) {
            return OUTSIDE;
        }
        if (notes.count >= NOTES) {
            return FULL;
        }
        int n = notes.count;
        notes.count = n + 1;
        notes.sort[n] = sort;
        notes.one[n] = a;
        notes.other[n] = b;
        notes.number[n] = d;
        notes.weight[n] = weight;
        notes.inForce |= 1 << n;
        forgetAnswers();
        return n;
    }

    public int force(int n, boolean is) {
        if (!notes.has(n)) {
            return UNKNOWN;
        }
        if (notes.isInForce(n) == is) {
            return 0;
        }
        notes.inForce ^= 1 << n;
        forgetAnswers();
        return 1;
    }

    public int unnote() {
        if (notes.count <= 0) {
            return STATE;
        }
        notes.count--;
        notes.inForce &= ~(1 << notes.count);
        forgetAnswers();
        return notes.count;
    }

    public int unletter() {
        int a = letters.count - 1;
        if (a < 0 || notes.anyNames(a)) {
            return STATE;
        }
        for (int k = 0; k < BUNDLES; k++) {
            bundles[k].remove(a);
        }
        letters.count = a;
        forgetAnswers();
        return a;
    }

    public int ofLetter(int a, int what) {
        if (!letters.has(a)) {
            return UNKNOWN;
        }
        switch (what) {
            case 0:
                return letters.first[a];
            case 1:
                return letters.last[a];
            case 2:
                return notes.inForceNaming(a);
            case 3:
                return bundlesWith(a);
            default:
                return OUTSIDE;
        }
    }

    public int ofNote(int n, int what) {
        if (!notes.has(n)) {
            return UNKNOWN;
        }
        switch (what) {
            case 0:
                return notes.sort[n];
            case 1:
                return notes.one[n];
            case 2:
                return notes.other[n];
            case 3:
                return notes.number[n];
            case 4:
                return notes.weight[n];
            case 5:
                return notes.isInForce(n) ? 1 : 0;
            default:
                return OUTSIDE;
        }
    }

    // ---- 2 days

    public int agree() {
        return ways.exist() ? 1 : 0;
    }

    public int day(int a, int what) {
        if (!letters.has(a)) {
            return UNKNOWN;
        }
        if (what != 0 && what != 1) {
            return OUTSIDE;
        }
        if (!ways.exist()) {
            return STATE;
        }
        return what == 0 ? ways.earliest[a] : ways.latest[a];
    }

    public int can(int a, int day) {
        if (!letters.has(a)) {
            return UNKNOWN;
        }
        if (day < 0 || day >= DAYS) {
            return OUTSIDE;
        }
        if (!ways.exist()) {
            return STATE;
        }
        return ways.allow(a, day) ? 1 : 0;
    }

    public int left(int a) {
        if (!letters.has(a)) {
            return UNKNOWN;
        }
        if (!ways.exist()) {
            return STATE;
        }
        return ways.daysOpenTo(a);
    }

    public int gap(int a, int b) {
        if (!letters.has(a) || !letters.has(b) || a == b) {
            return UNKNOWN;
        }
        if (!ways.exist()) {
            return STATE;
        }
        return ways.leastGap(a, b) + GAP_OFFSET;
    }

    public int ahead(int a, int what) {
        if (!letters.has(a)) {
            return UNKNOWN;
        }
        if (what != 0 && what != 1) {
            return OUTSIDE;
        }
        if (!ways.exist()) {
            return STATE;
        }
        return what == 0 ? ways.thoseAheadOf(a) : ways.thoseBehind(a);
    }

    // ---- 3 orders, knots

    public int orders() {
        if (!ways.exist()) {
            return STATE;
        }
        rows.take(ways, letters.count);
        return rows.howMany();
    }

    public int order(int k) {
        if (k < 0 || k >= LETTERS) {
            return OUTSIDE;
        }
        if (!ways.exist()) {
            return STATE;
        }
        if (k >= letters.count) {
            return NONE;
        }
        rows.take(ways, letters.count);
        return rows.ofFirst(k);
    }

    public int knot(int what) {
        if (what != 0 && what != 1) {
            return OUTSIDE;
        }
        int set = knots.lightest();
        return what == 0 ? set : notes.weightOf(set);
    }

    public int core() {
        return ways.exist() ? STATE : knots.unsparable();
    }

    // ---- 4 what to ask

    public int worst(int a) {
        if (!letters.has(a)) {
            return UNKNOWN;
        }
        if (!ways.exist()) {
            return STATE;
        }
        return ways.greatestRest(a);
    }

    public int best() {
        if (!ways.exist()) {
            return STATE;
        }
        int found = NONE;
        int least = 0;
        for (int a = 0; a < letters.count; a++) {
            int rest = ways.greatestRest(a);
            if (found == NONE || rest < least) {
                found = a;
                least = rest;
            }
        }
        return found;
    }

    // ---- 5 bundles

    public int tie(int a, int bundle) {
        if (!letters.has(a) || !isBundle(bundle)) {
            return UNKNOWN;
        }
        Bundle into = bundles[bundle];
        if (into.holds(a) || !ways.exist()) {
            return STATE;
        }
        int place = into.placeFor(a, ways.earliest);
        into.insert(place, a);
        return place;
    }

    public int untie(int a, int bundle) {
        if (!letters.has(a) || !isBundle(bundle)) {
            return UNKNOWN;
        }
        Bundle from = bundles[bundle];
        if (!from.holds(a)) {
            return STATE;
        }
        from.remove(a);
        return from.size;
    }

    public int spread(int bundle) {
        if (!isBundle(bundle)) {
            return UNKNOWN;
        }
        if (!ways.exist()) {
            return STATE;
        }
        Bundle from = bundles[bundle];
        Bundle next = bundles[bundle + 1 < BUNDLES ? bundle + 1 : 0];
        int leaving = leavingOf(from);
        int place = 0;
        for (int turns = from.size; turns > 0; turns--) {
            int a = from.row[place];
            if ((leaving & 1 << a) == 0) {
                place++;
            } else {
                from.remove(a);
                next.receive(a);
            }
        }
        return Integer.bitCount(leaving);
    }

    public int lies(int bundle, int place) {
        if (!isBundle(bundle)) {
            return UNKNOWN;
        }
        if (place < 0 || place >= LETTERS) {
            return OUTSIDE;
        }
        return place < bundles[bundle].size ? bundles[bundle].row[place] : NONE;
    }

    public int many(int what) {
        switch (what) {
            case 0:
                return letters.count;
            case 1:
                return notes.count;
            case 2:
                return Integer.bitCount(notes.inForce);
            case 3:
            case 4:
            case 5:
                return bundles[what - 3].size;
            case 6:
                return notes.weightOf(notes.inForce);
            default:
                return OUTSIDE;
        }
    }

    private static boolean isStamp(int first, int last) {
        return first >= 0 && first <= last && last < DAYS;
    }

    private static boolean isBundle(int bundle) {
        return bundle >= 0 && bundle < BUNDLES;
    }

    private static boolean isOfTwo(int sort) {
        return sort == ANSWER || sort == NEAR;
    }

    private static int greatestNumber(int sort) {
        if (isOfTwo(sort)) {
            return GREATEST_SPAN;
        }
        return sort == WEEKDAY ? WEEK - 1 : DAYS - 1;
    }

    private void forgetAnswers() {
        ways.fresh = false;
        knots.fresh = false;
    }

    private int bundlesWith(int a) {
        int set = 0;
        for (int k = 0; k < BUNDLES; k++) {
            if (bundles[k].holds(a)) {
                set |= 1 << k;
            }
        }
        return set;
    }

    private int leavingOf(Bundle from) {
        int inside = from.asSet();
        int leaving = 0;
        for (int place = 0; place < from.size; place++) {
            int a = from.row[place];
            if ((ways.thoseAheadOf(a) & inside) != 0) {
                leaving |= 1 << a;
            }
        }
        return leaving;
    }

    private static final class Letters {
        int count;
        final int[] first = new int[LETTERS];
        final int[] last = new int[LETTERS];

        boolean has(int a) {
            return a >= 0 && a < count;
        }
    }

    private static final class Notes {
        int count;
        int inForce;
        final int[] sort = new int[NOTES];
        final int[] one = new int[NOTES];
        final int[] other = new int[NOTES];
        final int[] number = new int[NOTES];
        final int[] weight = new int[NOTES];

        boolean has(int n) {
            return n >= 0 && n < count;
        }

        boolean isInForce(int n) {
            return (inForce & 1 << n) != 0;
        }

        boolean names(int n, int a) {
            return one[n] == a || other[n] == a;
        }

        boolean anyNames(int a) {
            for (int n = 0; n < count; n++) {
                if (names(n, a)) {
                    return true;
                }
            }
            return false;
        }

        int inForceNaming(int a) {
            int found = 0;
            for (int n = 0; n < count; n++) {
                if (isInForce(n) && names(n, a)) {
                    found++;
                }
            }
            return found;
        }

        int weightOf(int set) {
            int sum = 0;
            for (int n = 0; n < count; n++) {
                if ((set & 1 << n) != 0) {
                    sum += weight[n];
                }
            }
            return sum;
        }
    }

    /** What the stamps and a set of notes ask: a span and a weekday for each letter, and links. */
    private static final class Web {
        private static final int ANY = -1;
        private static final int LINKS = 2 * NOTES;
        /** A round that is not the last one moves a letter by a day at least. */
        private static final int ROUNDS = LETTERS * DAYS + 1;

        int letters;
        boolean torn;
        final int[] low = new int[LETTERS];
        final int[] high = new int[LETTERS];
        final int[] weekday = new int[LETTERS];
        int links;
        /** Of each link: the day of the later one is that of the earlier one and so many, or more. */
        final int[] earlier = new int[LINKS];
        final int[] later = new int[LINKS];
        final int[] by = new int[LINKS];

        void weave(Letters from, Notes notes, int set) {
            letters = from.count;
            torn = false;
            links = 0;
            for (int a = 0; a < letters; a++) {
                low[a] = from.first[a];
                high[a] = from.last[a];
                weekday[a] = ANY;
            }
            for (int n = 0; n < notes.count; n++) {
                if ((set & 1 << n) != 0) {
                    heed(notes.sort[n], notes.one[n], notes.other[n], notes.number[n]);
                }
            }
        }

        private void heed(int sort, int a, int b, int d) {
            switch (sort) {
                case ANSWER:
                    link(b, a, d);
                    break;
                case NEAR:
                    link(b, a, -d);
                    link(a, b, -d);
                    break;
                case EVENT:
                    low[a] = Math.max(low[a], d);
                    break;
                case UNTIL:
                    high[a] = Math.min(high[a], d);
                    break;
                default:
                    torn = torn || weekday[a] != ANY && weekday[a] != d;
                    weekday[a] = d;
                    break;
            }
        }

        private void link(int from, int to, int days) {
            if (links < LINKS) {
                earlier[links] = from;
                later[links] = to;
                by[links] = days;
                links++;
            }
        }

        /** The least way; false if there is none. */
        boolean least(int[] days) {
            if (torn) {
                return false;
            }
            for (int a = 0; a < letters; a++) {
                days[a] = notBefore(a, low[a]);
                if (days[a] > high[a]) {
                    return false;
                }
            }
            return rise(days);
        }

        /** The greatest way, where there is a way. */
        void greatest(int[] days) {
            for (int a = 0; a < letters; a++) {
                days[a] = notBehind(a, high[a]);
            }
            sink(days);
        }

        /** To the least way in which no letter lies before its day here; false if there is none. */
        boolean rise(int[] days) {
            for (int round = 0; round < ROUNDS; round++) {
                boolean moved = false;
                for (int k = 0; k < links; k++) {
                    int a = later[k];
                    int bound = days[earlier[k]] + by[k];
                    if (days[a] < bound) {
                        days[a] = notBefore(a, bound);
                        if (days[a] > high[a]) {
                            return false;
                        }
                        moved = true;
                    }
                }
                if (!moved) {
                    return true;
                }
            }
            return false;
        }

        /** To the greatest way in which no letter lies behind its day here, where there is one. */
        void sink(int[] days) {
            for (int round = 0; round < ROUNDS; round++) {
                boolean moved = false;
                for (int k = 0; k < links; k++) {
                    int a = earlier[k];
                    int bound = days[later[k]] - by[k];
                    if (days[a] > bound) {
                        days[a] = notBehind(a, bound);
                        moved = true;
                    }
                }
                if (!moved) {
                    return;
                }
            }
        }

        int notBefore(int a, int day) {
            return weekday[a] == ANY ? day : day + (weekday[a] + WEEK - day % WEEK) % WEEK;
        }

        private int notBehind(int a, int day) {
            return weekday[a] == ANY ? day : day - (day % WEEK + WEEK - weekday[a]) % WEEK;
        }
    }

    /**
     * What holds in all ways by the notes in force, kept until letters or notes change. All but
     * exist() is asked only where there is a way, and of letters that there are.
     */
    private static final class Ways {
        private static final int CLOSED = -1;

        boolean fresh;
        final int[] earliest = new int[LETTERS];
        final int[] latest = new int[LETTERS];

        private final Letters letters;
        private final Notes notes;
        private final Web web = new Web();
        private boolean found;
        private int swept;
        private final int[] days = new int[LETTERS];
        /** For each letter and day: the sum of all least days if that is its day, or CLOSED. */
        private final int[] leastSum = new int[LETTERS * DAYS];
        private final int[] open = new int[LETTERS];
        private final int[] gaps = new int[LETTERS * LETTERS];
        private final int[] rest = new int[LETTERS];

        Ways(Letters letters, Notes notes) {
            this.letters = letters;
            this.notes = notes;
        }

        boolean exist() {
            if (!fresh) {
                web.weave(letters, notes, notes.inForce);
                found = web.least(earliest);
                if (found) {
                    web.greatest(latest);
                }
                swept = 0;
                fresh = true;
            }
            return found;
        }

        boolean allow(int a, int day) {
            sweep(a);
            return leastSum[a * DAYS + day] != CLOSED;
        }

        int daysOpenTo(int a) {
            sweep(a);
            return open[a];
        }

        int leastGap(int a, int b) {
            sweep(a);
            return gaps[a * LETTERS + b];
        }

        int greatestRest(int a) {
            sweep(a);
            return rest[a];
        }

        int thoseAheadOf(int b) {
            int set = 0;
            for (int a = 0; a < letters.count; a++) {
                sweep(a);
                if (gaps[a * LETTERS + b] > 0) {
                    set |= 1 << a;
                }
            }
            return set;
        }

        int thoseBehind(int a) {
            sweep(a);
            int set = 0;
            for (int b = 0; b < letters.count; b++) {
                if (gaps[a * LETTERS + b] > 0) {
                    set |= 1 << b;
                }
            }
            return set;
        }

        private void sweep(int a) {
            if ((swept & 1 << a) == 0) {
                sweepUp(a);
                sweepDown(a);
                swept |= 1 << a;
            }
        }

        /** The least ways by the day of a letter only rise with it, so each starts from the last. */
        private void sweepUp(int a) {
            open[a] = 0;
            for (int b = 0; b < letters.count; b++) {
                gaps[a * LETTERS + b] = DAYS;
                days[b] = earliest[b];
            }
            boolean is = true;
            for (int day = 0; day < DAYS; day++) {
                if (is && days[a] < day) {
                    days[a] = web.notBefore(a, day);
                    is = days[a] <= latest[a] && web.rise(days);
                }
                if (is && days[a] == day) {
                    open[a]++;
                    leastSum[a * DAYS + day] = sumOfDays();
                    lowerGaps(a);
                } else {
                    leastSum[a * DAYS + day] = CLOSED;
                }
            }
        }

        private void lowerGaps(int a) {
            for (int b = 0; b < letters.count; b++) {
                int gap = days[b] - days[a];
                if (gap < gaps[a * LETTERS + b]) {
                    gaps[a * LETTERS + b] = gap;
                }
            }
        }

        private void sweepDown(int a) {
            rest[a] = 0;
            for (int b = 0; b < letters.count; b++) {
                days[b] = latest[b];
            }
            for (int day = latest[a]; day >= earliest[a]; day--) {
                int least = leastSum[a * DAYS + day];
                if (least != CLOSED) {
                    days[a] = day;
                    web.sink(days);
                    rest[a] = Math.max(rest[a], sumOfDays() - least);
                }
            }
        }

        private int sumOfDays() {
            int sum = 0;
            for (int b = 0; b < letters.count; b++) {
                sum += days[b];
            }
            return sum;
        }
    }

    /** The rows of letters in which none comes ahead of one that is ahead of it. */
    private static final class Orders {
        private int count;
        private final int[] before = new int[LETTERS];
        private final int[] startsWith = new int[1 << LETTERS];

        void take(Ways ways, int letters) {
            count = letters;
            for (int a = 0; a < count; a++) {
                before[a] = ways.thoseAheadOf(a);
            }
        }

        int howMany() {
            int all = (1 << count) - 1;
            for (int set = 1; set <= all; set++) {
                startsWith[set] = 0;
            }
            startsWith[0] = 1;
            for (int set = 0; set < all; set++) {
                for (int a = 0; a < count; a++) {
                    if (comesNext(a, set)) {
                        startsWith[set | 1 << a] += startsWith[set];
                    }
                }
            }
            return startsWith[all];
        }

        int ofFirst(int k) {
            int placed = 0;
            int next = NONE;
            for (int place = 0; place <= k; place++) {
                next = firstNext(placed);
                if (next == NONE) {
                    return NONE;
                }
                placed |= 1 << next;
            }
            return next;
        }

        private int firstNext(int placed) {
            for (int a = 0; a < count; a++) {
                if (comesNext(a, placed)) {
                    return a;
                }
            }
            return NONE;
        }

        private boolean comesNext(int a, int placed) {
            return (placed & 1 << a) == 0 && (before[a] & ~placed) == 0;
        }
    }

    /** Which notes to let go, and which of those that contradict cannot be spared. */
    private static final class Knots {
        boolean fresh;

        private final Letters letters;
        private final Notes notes;
        private final Web web = new Web();
        private final int[] days = new int[LETTERS];
        private boolean any;
        private int bestSet;
        private int bestWeight;
        private int bestCount;

        Knots(Letters letters, Notes notes) {
            this.letters = letters;
            this.notes = notes;
        }

        int lightest() {
            if (!fresh) {
                any = false;
                seek(this, notes.count - 1, 0, 0);
                fresh = true;
            }
            return bestSet;
        }

        int unsparable() {
            int left = notes.inForce;
            for (int n = notes.count - 1; n >= 0; n--) {
                int without = left & ~(1 << n);
                if (without != left && !agreeing(without)) {
                    left = without;
                }
            }
            return left;
        }

        /**
         * The notes are kept or let go from the last one on, kept first: so the sets let go come in
         * rising order, and of those alike in weight and number the first one found is the least.
         */
        private static void seek(Knots best, int n, int kept, int gone) {
            if (!best.isBeatenBy(gone)) {
                return;
            }
            if (n < 0) {
                best.become(gone);
                return;
            }
            int bit = 1 << n;
            if (!best.notes.isInForce(n)) {
                seek(best, n - 1, kept, gone);
                return;
            }
            if (best.agreeing(kept | bit)) {
                seek(best, n - 1, kept | bit, gone);
            }
            seek(best, n - 1, kept, gone | bit);
        }

        private boolean isBeatenBy(int gone) {
            int weight = notes.weightOf(gone);
            return !any || weight < bestWeight
                    || weight == bestWeight && Integer.bitCount(gone) < bestCount;
        }

        private void become(int gone) {
            any = true;
            bestSet = gone;
            bestWeight = notes.weightOf(gone);
            bestCount = Integer.bitCount(gone);
        }

        private boolean agreeing(int set) {
            web.weave(letters, notes, set);
            return web.least(days);
        }
    }

    /** A row of letters, none twice. */
    private static final class Bundle {
        int size;
        final int[] row = new int[LETTERS];

        int asSet() {
            int set = 0;
            for (int place = 0; place < size; place++) {
                set |= 1 << row[place];
            }
            return set;
        }

        boolean holds(int a) {
            return (asSet() & 1 << a) != 0;
        }

        int placeFor(int a, int[] earliest) {
            for (int place = size; place > 0; place--) {
                int b = row[place - 1];
                if (earliest[b] < earliest[a] || earliest[b] == earliest[a] && b < a) {
                    return place;
                }
            }
            return 0;
        }

        void insert(int place, int a) {
            if (size >= LETTERS || place < 0 || place > size) {
                return;
            }
            for (int k = size; k > place; k--) {
                row[k] = row[k - 1];
            }
            row[place] = a;
            size++;
        }

        void remove(int a) {
            int kept = 0;
            for (int place = 0; place < size; place++) {
                if (row[place] != a) {
                    row[kept] = row[place];
                    kept++;
                }
            }
            size = kept;
        }

        /** One that is sent to a bundle that it is in already comes out of it. */
        void receive(int a) {
            if (holds(a)) {
                remove(a);
            } else {
                insert(size, a);
            }
        }
    }
}
