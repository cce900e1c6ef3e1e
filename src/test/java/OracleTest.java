import java.util.ArrayList;
import java.util.List;
import java.util.Random;

/**
 * Runs of calls, the same ones each time, on an object and on a model: where letters have few days,
 * or where they are three or four, it counts all ways one by one; where more of them have up to 200,
 * it crosses out days without a fitting day of the other letter until none is left to cross out. The
 * second rests, as the object does, on ways being closed under the lesser and the greater day; only
 * the first would show that wrong.
 */
public final class OracleTest {
    private static final int UNKNOWN = -1, OUTSIDE = -2, STATE = -3, FULL = -4, NONE = -9;
    private static final int DAYS = 200;
    private static final int CALLS = 512;

    private static int wrong = 0;

    public static void main(String[] args) {
        int[][] shapes = {{1, 200}, {2, 60}, {3, 18}, {4, 9}, {5, 6}, {6, 4}, {8, 3}};
        for (int seed = 0; seed < 420; seed++) {
            int[] shape = shapes[seed % shapes.length];
            run(seed, shape[0], shape[1], true, CALLS);
        }
        for (int seed = 1000; seed < 1060; seed++) {
            run(seed, 3 + seed % 6, 40 + seed * 37 % 160, false, 200);
        }
        // Few letters with many days, all ways counted: here the closure is not taken for granted.
        for (int seed = 2000; seed < 2030; seed++) {
            run(seed, seed % 2 == 0 ? 3 : 4, seed % 2 == 0 ? DAYS : 45, true, 200);
        }
        System.out.println(wrong == 0 ? "object and model agree" : wrong + " answers differ");
        if (wrong != 0) {
            System.exit(1);
        }
    }

    private static void run(int seed, int letters, int width, boolean count, int calls) {
        Random random = new Random(seed);
        Shape shape = new Shape(letters, width, random.nextInt(DAYS - width + 1), random);
        LetterDays x = new LetterDays();
        Model model = new Model(count);
        for (int k = 0; k < calls && wrong < 20; k++) {
            int[] call = shape.next(model, k);
            int got = ofObject(x, call);
            int want = model.answer(call);
            if (got != want) {
                wrong++;
                System.out.println("seed " + seed + ", call " + k + ": " + text(call)
                        + " answered " + got + ", due is " + want);
            }
        }
    }

    private static final String[] NAMES = {"letter", "stamp", "note", "force", "unnote", "unletter",
        "ofLetter", "ofNote", "agree", "day", "can", "left", "gap", "ahead", "orders", "order", "knot",
        "core", "worst", "best", "tie", "untie", "spread", "lies", "many"};

    private static String text(int[] call) {
        StringBuilder text = new StringBuilder(NAMES[call[0]]);
        for (int k = 1; k < call.length; k++) {
            text.append(' ').append(call[k]);
        }
        return text.toString();
    }

    private static int ofObject(LetterDays x, int[] c) {
        switch (c[0]) {
            case 0: return x.letter(c[1], c[2]);
            case 1: return x.stamp(c[1], c[2], c[3]);
            case 2: return x.note(c[1], c[2], c[3], c[4], c[5]);
            case 3: return x.force(c[1], c[2] != 0);
            case 4: return x.unnote();
            case 5: return x.unletter();
            case 6: return x.ofLetter(c[1], c[2]);
            case 7: return x.ofNote(c[1], c[2]);
            case 8: return x.agree();
            case 9: return x.day(c[1], c[2]);
            case 10: return x.can(c[1], c[2]);
            case 11: return x.left(c[1]);
            case 12: return x.gap(c[1], c[2]);
            case 13: return x.ahead(c[1], c[2]);
            case 14: return x.orders();
            case 15: return x.order(c[1]);
            case 16: return x.knot(c[1]);
            case 17: return x.core();
            case 18: return x.worst(c[1]);
            case 19: return x.best();
            case 20: return x.tie(c[1], c[2]);
            case 21: return x.untie(c[1], c[2]);
            case 22: return x.spread(c[1]);
            case 23: return x.lies(c[1], c[2]);
            default: return x.many(c[1]);
        }
    }

    /** Which calls come, so that letters stay within a span of days and most numbers are right. */
    private static final class Shape {
        final int most;
        final int width;
        final int base;
        final Random random;
        final int mends;

        Shape(int most, int width, int base, Random random) {
            this.most = most;
            this.width = width;
            this.base = base;
            this.random = random;
            this.mends = random.nextBoolean() ? 3 : 50;
        }

        int[] next(Model model, int k) {
            int have = model.letters.size();
            if (have < most && (k < most || random.nextInt(3) == 0)) {
                return stamped(0, -1);
            }
            // Most answers about days can be had only where the notes agree.
            if (random.nextInt(mends) == 0 && !model.agree()) {
                return new int[] {3, Integer.numberOfTrailingZeros(model.knot(0)), 0};
            }
            int kind = random.nextInt(100);
            if (kind < 5) {
                return stamped(1, letter(have));
            }
            if (kind < 13) {
                return noted(have);
            }
            if (kind < 20) {
                return new int[] {3, number(model.notes.size()), random.nextInt(2)};
            }
            if (kind < 23) {
                return new int[] {4};
            }
            if (kind < 25) {
                return new int[] {5};
            }
            if (kind < 45) {
                return bundled(have);
            }
            return asked(model, 6 + random.nextInt(19));
        }

        private int[] stamped(int call, int a) {
            int first = base + random.nextInt(width);
            int last = base + random.nextInt(width);
            if (random.nextInt(25) != 0 && first > last) {
                int swap = first;
                first = last;
                last = swap;
            }
            if (random.nextInt(40) == 0) {
                last = DAYS;
            }
            return call == 0 ? new int[] {0, first, last} : new int[] {1, a, first, last};
        }

        private int[] noted(int have) {
            int sort = random.nextInt(30) == 0 ? random.nextInt(9) - 2 : random.nextInt(5);
            int a = letter(have);
            int b = sort < 2 || random.nextInt(25) == 0 ? letter(have) : a;
            int d = sort < 2 ? random.nextInt(Math.min(100, width / 2 + 1))
                : sort < 4 ? base + random.nextInt(width) : random.nextInt(7);
            if (random.nextInt(30) == 0) {
                d = random.nextInt(220) - 10;
            }
            int weight = random.nextInt(30) == 0 ? random.nextInt(14) - 2 : 1 + random.nextInt(random.nextBoolean() ? 3 : 9);
            return new int[] {2, sort, a, b, d, weight};
        }

        private int[] bundled(int have) {
            int kind = random.nextInt(8);
            if (kind < 4) {
                return new int[] {20, letter(have), bundle()};
            }
            if (kind < 5) {
                return new int[] {21, letter(have), bundle()};
            }
            if (kind < 6) {
                return new int[] {22, bundle()};
            }
            return new int[] {23, bundle(), random.nextInt(20) == 0 ? random.nextInt(12) - 2 : random.nextInt(8)};
        }

        private int[] asked(Model model, int call) {
            int a = letter(model.letters.size());
            switch (call) {
                case 6: return new int[] {6, a, random.nextInt(6) - 1};
                case 7: return new int[] {7, number(model.notes.size()), random.nextInt(8) - 1};
                case 8: case 14: case 17: case 19: return new int[] {call};
                case 9: case 13: return new int[] {call, a, choice()};
                case 10: return new int[] {10, a, random.nextInt(20) == 0 ? random.nextInt(300) - 50 : base + random.nextInt(width)};
                case 11: case 18: return new int[] {call, a};
                case 12: return new int[] {12, a, letter(model.letters.size())};
                case 15: return new int[] {15, random.nextInt(11) - 1};
                case 16: return new int[] {16, choice()};
                case 24: return new int[] {24, random.nextInt(9) - 1};
                default: return bundled(model.letters.size());
            }
        }

        private int choice() {
            return random.nextInt(12) == 0 ? random.nextInt(5) - 2 : random.nextInt(2);
        }

        private int letter(int have) {
            return number(have);
        }

        private int number(int have) {
            return have == 0 || random.nextInt(25) == 0 ? random.nextInt(12) - 2 : random.nextInt(have);
        }

        private int bundle() {
            return random.nextInt(25) == 0 ? random.nextInt(7) - 2 : random.nextInt(3);
        }
    }

    private static final class Model {
        final List<int[]> letters = new ArrayList<>();
        /** Each: sort, a, b, d, weight, force. */
        final List<int[]> notes = new ArrayList<>();
        final List<List<Integer>> bundles = List.of(new ArrayList<>(), new ArrayList<>(), new ArrayList<>());
        final boolean counting;
        private Table table;
        private int knot;

        Model(boolean counting) {
            this.counting = counting;
        }

        int answer(int[] c) {
            if (c[0] <= 5) {
                table = null;
                knot = -1;
            }
            switch (c[0]) {
                case 0: return letter(c[1], c[2]);
                case 1: return stamp(c[1], c[2], c[3]);
                case 2: return note(c[1], c[2], c[3], c[4], c[5]);
                case 3: return force(c[1], c[2]);
                case 4: return unnote();
                case 5: return unletter();
                case 6: return ofLetter(c[1], c[2]);
                case 7: return !isNote(c[1]) ? UNKNOWN : c[2] < 0 || c[2] > 5 ? OUTSIDE : notes.get(c[1])[c[2]];
                case 8: return agree() ? 1 : 0;
                case 9: return day(c[1], c[2]);
                case 10: return can(c[1], c[2]);
                case 11: return left(c[1]);
                case 12: return !isLetter(c[1]) || !isLetter(c[2]) || c[1] == c[2] ? UNKNOWN : !agree() ? STATE : 1000 + table().gap(c[1], c[2]);
                case 13: return ahead(c[1], c[2]);
                case 14: return !agree() ? STATE : orderRows().size();
                case 15: return order(c[1]);
                case 16: return knot(c[1]);
                case 17: return core();
                case 18: return !isLetter(c[1]) ? UNKNOWN : !agree() ? STATE : table().worst(c[1]);
                case 19: return best();
                case 20: return tie(c[1], c[2]);
                case 21: return untie(c[1], c[2]);
                case 22: return spread(c[1]);
                case 23: return !isBundle(c[1]) ? UNKNOWN : c[2] < 0 || c[2] > 7 ? OUTSIDE : c[2] < bundles.get(c[1]).size() ? bundles.get(c[1]).get(c[2]) : NONE;
                default: return many(c[1]);
            }
        }

        private boolean isLetter(int a) {
            return a >= 0 && a < letters.size();
        }

        private boolean isNote(int n) {
            return n >= 0 && n < notes.size();
        }

        private boolean isBundle(int k) {
            return k >= 0 && k <= 2;
        }

        private int letter(int first, int last) {
            if (first < 0 || last > 199 || first > last) {
                return OUTSIDE;
            }
            if (letters.size() == 8) {
                return FULL;
            }
            letters.add(new int[] {first, last});
            return letters.size() - 1;
        }

        private int stamp(int a, int first, int last) {
            if (!isLetter(a)) {
                return UNKNOWN;
            }
            if (first < 0 || last > 199 || first > last) {
                return OUTSIDE;
            }
            return letters.set(a, new int[] {first, last})[0];
        }

        private int note(int sort, int a, int b, int d, int weight) {
            if (sort < 0 || sort > 4) {
                return OUTSIDE;
            }
            if (!isLetter(a) || !isLetter(b)) {
                return UNKNOWN;
            }
            if (sort <= 1 && a == b || sort >= 2 && a != b) {
                return UNKNOWN;
            }
            int[] most = {99, 99, 199, 199, 6};
            if (d < 0 || d > most[sort] || weight < 1 || weight > 9) {
                return OUTSIDE;
            }
            if (notes.size() == 10) {
                return FULL;
            }
            notes.add(new int[] {sort, a, b, d, weight, 1});
            return notes.size() - 1;
        }

        private int force(int n, int is) {
            if (!isNote(n)) {
                return UNKNOWN;
            }
            int was = notes.get(n)[5];
            notes.get(n)[5] = is;
            return was == is ? 0 : 1;
        }

        private int unnote() {
            if (notes.isEmpty()) {
                return STATE;
            }
            notes.remove(notes.size() - 1);
            return notes.size();
        }

        private int unletter() {
            Integer a = letters.size() - 1;
            if (a < 0) {
                return STATE;
            }
            for (int[] note : notes) {
                if (note[1] == a || note[2] == a) {
                    return STATE;
                }
            }
            for (List<Integer> bundle : bundles) {
                bundle.remove(a);
            }
            letters.remove(letters.size() - 1);
            return letters.size();
        }

        private int ofLetter(int a, int what) {
            if (!isLetter(a)) {
                return UNKNOWN;
            }
            if (what < 0 || what > 3) {
                return OUTSIDE;
            }
            if (what < 2) {
                return letters.get(a)[what];
            }
            int sum = 0;
            if (what == 2) {
                for (int[] note : notes) {
                    sum += note[5] == 1 && (note[1] == a || note[2] == a) ? 1 : 0;
                }
                return sum;
            }
            for (int k = 0; k < 3; k++) {
                sum += bundles.get(k).contains(a) ? 1 << k : 0;
            }
            return sum;
        }

        private int inForce() {
            int set = 0;
            for (int n = 0; n < notes.size(); n++) {
                set += notes.get(n)[5] << n;
            }
            return set;
        }

        private boolean agree() {
            return table().any;
        }

        private Table table() {
            if (table == null) {
                table = new Table(letters, chosen(inForce()), counting, false);
            }
            return table;
        }

        private List<int[]> chosen(int set) {
            List<int[]> chosen = new ArrayList<>();
            for (int n = 0; n < notes.size(); n++) {
                if ((set >> n & 1) == 1) {
                    chosen.add(notes.get(n));
                }
            }
            return chosen;
        }

        private boolean agrees(int set) {
            return new Table(letters, chosen(set), counting, true).any;
        }

        private int day(int a, int what) {
            return !isLetter(a) ? UNKNOWN : what < 0 || what > 1 ? OUTSIDE : !agree() ? STATE
                : what == 0 ? table().earliest(a) : table().latest(a);
        }

        private int can(int a, int day) {
            return !isLetter(a) ? UNKNOWN : day < 0 || day > 199 ? OUTSIDE : !agree() ? STATE
                : table().can(a, day) ? 1 : 0;
        }

        private int left(int a) {
            if (!isLetter(a)) {
                return UNKNOWN;
            }
            if (!agree()) {
                return STATE;
            }
            int left = 0;
            for (int day = 0; day < DAYS; day++) {
                left += table().can(a, day) ? 1 : 0;
            }
            return left;
        }

        private boolean isAhead(int a, int b) {
            return a != b && table().gap(a, b) >= 1;
        }

        private int ahead(int a, int what) {
            if (!isLetter(a)) {
                return UNKNOWN;
            }
            if (what < 0 || what > 1) {
                return OUTSIDE;
            }
            if (!agree()) {
                return STATE;
            }
            int set = 0;
            for (int b = 0; b < letters.size(); b++) {
                set += (what == 0 ? isAhead(b, a) : isAhead(a, b)) ? 1 << b : 0;
            }
            return set;
        }

        /** All rows, each letter tried in each place, in the order of rows. */
        private List<List<Integer>> orderRows() {
            List<List<Integer>> rows = new ArrayList<>();
            boolean[][] is = new boolean[letters.size()][letters.size()];
            for (int a = 0; a < letters.size(); a++) {
                for (int b = 0; b < letters.size(); b++) {
                    is[a][b] = isAhead(a, b);
                }
            }
            extend(new ArrayList<>(), is, rows);
            return rows;
        }

        private void extend(List<Integer> row, boolean[][] is, List<List<Integer>> rows) {
            if (row.size() == letters.size()) {
                rows.add(new ArrayList<>(row));
                return;
            }
            for (int a = 0; a < letters.size(); a++) {
                boolean fits = !row.contains(a);
                for (int k = 0; fits && k < row.size(); k++) {
                    fits = !is[a][row.get(k)];
                }
                if (fits) {
                    row.add(a);
                    extend(row, is, rows);
                    row.remove(row.size() - 1);
                }
            }
        }

        private int order(int k) {
            if (k < 0 || k > 7) {
                return OUTSIDE;
            }
            if (!agree()) {
                return STATE;
            }
            return k < letters.size() ? orderRows().get(0).get(k) : NONE;
        }

        private int weight(int set) {
            int sum = 0;
            for (int[] note : chosen(set)) {
                sum += note[4];
            }
            return sum;
        }

        private int knot(int what) {
            if (what < 0 || what > 1) {
                return OUTSIDE;
            }
            if (knot < 0) {
                int all = inForce();
                long least = Long.MAX_VALUE;
                for (int set = 0; set < 1 << notes.size(); set++) {
                    long rank = weight(set) * 1000000L + Integer.bitCount(set) * 10000L + set;
                    if ((set & ~all) == 0 && rank < least && agrees(all & ~set)) {
                        least = rank;
                        knot = set;
                    }
                }
            }
            return what == 0 ? knot : weight(knot);
        }

        private int core() {
            if (agree()) {
                return STATE;
            }
            int left = inForce();
            for (int n = notes.size() - 1; n >= 0; n--) {
                if ((left >> n & 1) == 1 && !agrees(left - (1 << n))) {
                    left -= 1 << n;
                }
            }
            return left;
        }

        private int best() {
            if (!agree()) {
                return STATE;
            }
            int best = NONE;
            for (int a = letters.size() - 1; a >= 0; a--) {
                if (best == NONE || table().worst(a) <= table().worst(best)) {
                    best = a;
                }
            }
            return best;
        }

        private int tie(int a, int k) {
            if (!isLetter(a) || !isBundle(k)) {
                return UNKNOWN;
            }
            if (bundles.get(k).contains(a) || !agree()) {
                return STATE;
            }
            int place = 0;
            for (int p = 0; p < bundles.get(k).size(); p++) {
                int b = bundles.get(k).get(p);
                if (table().earliest(b) * 10 + b < table().earliest(a) * 10 + a) {
                    place = p + 1;
                }
            }
            bundles.get(k).add(place, a);
            return place;
        }

        private int untie(Integer a, int k) {
            if (!isLetter(a) || !isBundle(k)) {
                return UNKNOWN;
            }
            return bundles.get(k).remove(a) ? bundles.get(k).size() : STATE;
        }

        private int spread(int k) {
            if (!isBundle(k)) {
                return UNKNOWN;
            }
            if (!agree()) {
                return STATE;
            }
            List<Integer> was = new ArrayList<>(bundles.get(k));
            List<Integer> out = new ArrayList<>();
            for (Integer a : was) {
                for (Integer b : was) {
                    if (isAhead(b, a) && !out.contains(a)) {
                        out.add(a);
                    }
                }
            }
            bundles.get(k).removeAll(out);
            List<Integer> next = bundles.get((k + 1) % 3);
            for (Integer a : out) {
                if (!next.remove(a)) {
                    next.add(a);
                }
            }
            return out.size();
        }

        private int many(int what) {
            switch (what) {
                case 0: return letters.size();
                case 1: return notes.size();
                case 2: return Integer.bitCount(inForce());
                case 3: case 4: case 5: return bundles.get(what - 3).size();
                case 6: return weight(inForce());
                default: return OUTSIDE;
            }
        }
    }

    /** For each letter and day of it: the least and the greatest day of each letter in such ways. */
    private static final class Table {
        final List<int[]> letters;
        final List<int[]> notes;
        final int[][][] least;
        final int[][][] greatest;
        final boolean justWhether;
        boolean any;

        Table(List<int[]> letters, List<int[]> notes, boolean counting, boolean justWhether) {
            this.letters = letters;
            this.notes = notes;
            this.justWhether = justWhether;
            int n = letters.size();
            least = new int[n][DAYS][];
            greatest = new int[n][DAYS][];
            if (counting) {
                count(new int[n], 0);
            } else {
                crossOut(n);
            }
        }

        private void count(int[] way, int a) {
            if (justWhether && any) {
                return;
            }
            if (a == way.length) {
                any = true;
                for (int b = 0; b < a; b++) {
                    add(b, way[b], way, way);
                }
                return;
            }
            for (int day = letters.get(a)[0]; day <= letters.get(a)[1]; day++) {
                way[a] = day;
                if (holds(way, a)) {
                    count(way, a + 1);
                }
            }
        }

        private void add(int b, int day, int[] low, int[] high) {
            if (least[b][day] == null) {
                least[b][day] = low.clone();
                greatest[b][day] = high.clone();
            }
            for (int c = 0; c < low.length; c++) {
                least[b][day][c] = Math.min(least[b][day][c], low[c]);
                greatest[b][day][c] = Math.max(greatest[b][day][c], high[c]);
            }
        }

        private boolean holds(int[] way, int known) {
            for (int[] note : notes) {
                if (note[1] <= known && note[2] <= known && !fits(note, way[note[1]], way[note[2]])) {
                    return false;
                }
            }
            return true;
        }

        private static boolean fits(int[] note, int a, int b) {
            switch (note[0]) {
                case 0: return a >= b + note[3];
                case 1: return Math.abs(a - b) <= note[3];
                case 2: return a >= note[3];
                case 3: return a <= note[3];
                default: return a % 7 == note[3];
            }
        }

        private void crossOut(int n) {
            boolean[][] all = new boolean[n][DAYS];
            for (int a = 0; a < n; a++) {
                for (int day = letters.get(a)[0]; day <= letters.get(a)[1]; day++) {
                    all[a][day] = true;
                }
            }
            any = settle(all);
            for (int a = 0; any && !justWhether && a < n; a++) {
                for (int day = 0; day < DAYS; day++) {
                    if (all[a][day]) {
                        tryDay(all, a, day);
                    }
                }
            }
        }

        private void tryDay(boolean[][] all, int a, int day) {
            boolean[][] own = new boolean[all.length][];
            for (int b = 0; b < all.length; b++) {
                own[b] = all[b].clone();
            }
            own[a] = new boolean[DAYS];
            own[a][day] = true;
            if (settle(own)) {
                int[] low = new int[all.length];
                int[] high = new int[all.length];
                for (int b = 0; b < all.length; b++) {
                    low[b] = first(own[b]);
                    high[b] = last(own[b]);
                }
                add(a, day, low, high);
            }
        }

        private static int first(boolean[] days) {
            int day = 0;
            while (!days[day]) {
                day++;
            }
            return day;
        }

        private static int last(boolean[] days) {
            int day = DAYS - 1;
            while (!days[day]) {
                day--;
            }
            return day;
        }

        private boolean settle(boolean[][] days) {
            boolean moved = true;
            while (moved) {
                moved = false;
                for (int[] note : notes) {
                    moved |= cross(note, days, note[1], note[2], true);
                    if (note[0] <= 1) {
                        moved |= cross(note, days, note[2], note[1], false);
                    }
                }
            }
            for (boolean[] own : days) {
                boolean some = false;
                for (boolean is : own) {
                    some |= is;
                }
                if (!some) {
                    return false;
                }
            }
            return true;
        }

        private static boolean cross(int[] note, boolean[][] days, int a, int b, boolean straight) {
            boolean moved = false;
            for (int day = 0; day < DAYS; day++) {
                if (days[a][day] && !isBacked(note, day, days[b], a == b, straight)) {
                    days[a][day] = false;
                    moved = true;
                }
            }
            return moved;
        }

        private static boolean isBacked(int[] note, int day, boolean[] others, boolean one, boolean straight) {
            if (one) {
                return fits(note, day, day);
            }
            for (int other = 0; other < DAYS; other++) {
                if (others[other] && (straight ? fits(note, day, other) : fits(note, other, day))) {
                    return true;
                }
            }
            return false;
        }

        boolean can(int a, int day) {
            return least[a][day] != null;
        }

        int earliest(int a) {
            int day = 0;
            while (!can(a, day)) {
                day++;
            }
            return day;
        }

        int latest(int a) {
            int day = DAYS - 1;
            while (!can(a, day)) {
                day--;
            }
            return day;
        }

        int gap(int a, int b) {
            int gap = DAYS;
            for (int day = 0; day < DAYS; day++) {
                if (can(a, day)) {
                    gap = Math.min(gap, least[a][day][b] - day);
                }
            }
            return gap;
        }

        int worst(int a) {
            int worst = 0;
            for (int day = 0; day < DAYS; day++) {
                int sum = 0;
                for (int b = 0; can(a, day) && b < letters.size(); b++) {
                    sum += greatest[a][day][b] - least[a][day][b];
                }
                worst = Math.max(worst, sum);
            }
            return worst;
        }
    }
}
