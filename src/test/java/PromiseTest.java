/** Each promise by hand: ordinary inputs, the edges that the document names, wrong inputs. */
public final class PromiseTest {
    private static final int UNKNOWN = -1, OUTSIDE = -2, STATE = -3, FULL = -4, NONE = -9;
    private static final int ANSWER = 0, NEAR = 1, EVENT = 2, UNTIL = 3, WEEKDAY = 4;
    private static final int[] NO_NUMBERS = {-1, Integer.MIN_VALUE, Integer.MAX_VALUE};

    private static int wrong = 0;
    private static String promise = "";

    public static void main(String[] args) {
        newObject();
        letter();
        stamp();
        note();
        noteRefusals();
        force();
        unnote();
        unletter();
        ofLetter();
        ofNote();
        agree();
        day();
        can();
        left();
        gap();
        ahead();
        orders();
        order();
        knot();
        knotTies();
        core();
        worst();
        best();
        tie();
        untie();
        spread();
        lies();
        many();
        contradiction();
        refusalsChangeNothing();
        System.out.println(wrong == 0 ? "all promises hold" : wrong + " answers are not as due");
        if (wrong != 0) {
            System.exit(1);
        }
    }

    private static void due(String call, int got, int want) {
        if (got != want) {
            wrong++;
            System.out.println(promise + ": " + call + " answered " + got + ", due is " + want);
        }
    }

    /** Letters 0 .. 9 days each, one after another by ten days. */
    private static LetterDays withLetters(int count) {
        LetterDays x = new LetterDays();
        for (int a = 0; a < count; a++) {
            x.letter(10 * a, 10 * a + 9);
        }
        return x;
    }

    private static LetterDays withWideLetters(int count) {
        LetterDays x = new LetterDays();
        for (int a = 0; a < count; a++) {
            x.letter(0, 199);
        }
        return x;
    }

    /** Letter 0 by a stamp and a note that cannot both hold. */
    private static LetterDays contradicting() {
        LetterDays x = withLetters(3);
        x.tie(1, 0);
        x.note(EVENT, 0, 0, 10, 5);
        return x;
    }

    private static void newObject() {
        promise = "1 new object";
        LetterDays x = new LetterDays();
        for (int what = 0; what <= 6; what++) {
            due("many(" + what + ")", x.many(what), 0);
        }
        for (int bundle = 0; bundle < 3; bundle++) {
            due("lies", x.lies(bundle, 0), NONE);
        }
        due("agree", x.agree(), 1);
        due("constants", LetterDays.UNKNOWN, UNKNOWN);
        due("constants", LetterDays.OUTSIDE, OUTSIDE);
        due("constants", LetterDays.STATE, STATE);
        due("constants", LetterDays.FULL, FULL);
        due("constants", LetterDays.NONE, NONE);
        x.letter(0, 1);
        due("another object", new LetterDays().many(0), 0);
    }

    private static void letter() {
        promise = "2 letter";
        LetterDays x = new LetterDays();
        due("first", x.letter(0, 199), 0);
        due("one day", x.letter(7, 7), 1);
        due("edge", x.letter(199, 199), 2);
        due("edge", x.letter(0, 0), 3);
        due("below", x.letter(-1, 5), OUTSIDE);
        due("above", x.letter(5, 200), OUTSIDE);
        due("turned", x.letter(6, 5), OUTSIDE);
        due("both above", x.letter(200, 200), OUTSIDE);
        due("far", x.letter(Integer.MIN_VALUE, Integer.MAX_VALUE), OUTSIDE);
        for (int a = 4; a < 8; a++) {
            due("next", x.letter(a, a + 1), a);
        }
        due("ninth", x.letter(0, 1), FULL);
        due("ninth outside", x.letter(1, 0), OUTSIDE);
        due("many", x.many(0), 8);
    }

    private static void stamp() {
        promise = "3 stamp";
        LetterDays x = withLetters(2);
        due("ordinary", x.stamp(1, 100, 120), 10);
        due("again", x.stamp(1, 0, 199), 100);
        due("first", x.ofLetter(1, 0), 0);
        due("last", x.ofLetter(1, 1), 199);
        due("other one", x.ofLetter(0, 1), 9);
        due("latest", x.day(1, 1), 199);
        due("unknown", x.stamp(2, 0, 1), UNKNOWN);
        due("unknown ahead of outside", x.stamp(2, 1, 0), UNKNOWN);
        due("turned", x.stamp(1, 3, 2), OUTSIDE);
        due("below", x.stamp(1, -1, 2), OUTSIDE);
        due("above", x.stamp(1, 0, 200), OUTSIDE);
        due("as it was", x.ofLetter(1, 1), 199);
        for (int a : NO_NUMBERS) {
            due("no letter", x.stamp(a, 0, 1), UNKNOWN);
        }
    }

    private static void note() {
        promise = "4 note";
        LetterDays x = withWideLetters(2);
        due("answer", x.note(ANSWER, 1, 0, 99, 9), 0);
        due("in force", x.ofNote(0, 5), 1);
        due("earliest", x.day(1, 0), 99);
        due("latest", x.day(0, 1), 100);
        due("near", x.note(NEAR, 0, 1, 99, 1), 1);
        due("exact", x.gap(0, 1), 1099);
        due("exact", x.gap(1, 0), 901);
        due("event", x.note(EVENT, 0, 0, 50, 1), 2);
        due("event", x.day(0, 0), 50);
        due("until", x.note(UNTIL, 1, 1, 160, 1), 3);
        due("until", x.day(0, 1), 61);
        due("weekday", x.note(WEEKDAY, 1, 1, 6, 1), 4);
        due("weekday", x.day(1, 0), 153);
        due("weekday", x.day(1, 1), 160);
        due("the other one by it", x.day(0, 0), 54);
        due("days left", x.left(0), 2);
        LetterDays y = withWideLetters(2);
        due("edge", y.note(EVENT, 0, 0, 199, 1), 0);
        due("edge", y.note(UNTIL, 1, 1, 0, 1), 1);
        due("edge", y.day(0, 0), 199);
        due("edge", y.day(1, 1), 0);
        due("edge", y.note(WEEKDAY, 1, 1, 0, 1), 2);
        due("edge", y.note(NEAR, 0, 1, 0, 1), 3);
        due("contradict", y.agree(), 0);
        due("edge", y.note(ANSWER, 0, 1, 0, 1), 4);
    }

    private static void noteRefusals() {
        promise = "4 note, refusals";
        LetterDays x = withWideLetters(2);
        due("sort", x.note(-1, 0, 1, 0, 1), OUTSIDE);
        due("sort", x.note(5, 0, 1, 0, 1), OUTSIDE);
        due("sort ahead of letters", x.note(5, 9, 9, 0, 1), OUTSIDE);
        for (int sort = 0; sort <= 4; sort++) {
            due("a", x.note(sort, 2, 0, 0, 1), UNKNOWN);
            due("a and b", x.note(sort, 2, 2, 0, 1), UNKNOWN);
            due("a", x.note(sort, -1, -1, 0, 1), UNKNOWN);
            due("b", x.note(sort, 0, 2, 0, 1), UNKNOWN);
            due("b", x.note(sort, 0, -1, 0, 1), UNKNOWN);
            due("b ahead of d", x.note(sort, 0, 2, -1, 0), UNKNOWN);
            int one = sort < 2 ? 0 : 1;
            due("b and a", x.note(sort, 0, one, 0, 1), UNKNOWN);
            int right = sort < 2 ? 1 : 0;
            int most = sort < 2 ? 99 : sort < 4 ? 199 : 6;
            due("d below", x.note(sort, 0, right, -1, 1), OUTSIDE);
            due("d above", x.note(sort, 0, right, most + 1, 1), OUTSIDE);
            due("d far", x.note(sort, 0, right, Integer.MAX_VALUE, 1), OUTSIDE);
            due("weight below", x.note(sort, 0, right, most, 0), OUTSIDE);
            due("weight above", x.note(sort, 0, right, most, 10), OUTSIDE);
        }
        due("none made", x.many(1), 0);
        for (int n = 0; n < 10; n++) {
            due("next", x.note(EVENT, 0, 0, n, 9), n);
        }
        due("eleventh", x.note(EVENT, 0, 0, 0, 1), FULL);
        due("outside ahead of full", x.note(EVENT, 0, 0, 200, 1), OUTSIDE);
        due("outside ahead of full", x.note(EVENT, 0, 0, 0, 10), OUTSIDE);
        due("unknown ahead of full", x.note(EVENT, 0, 1, 0, 1), UNKNOWN);
        due("ten", x.many(1), 10);
    }

    private static void force() {
        promise = "5 force";
        LetterDays x = withWideLetters(1);
        x.note(EVENT, 0, 0, 30, 4);
        due("was so", x.force(0, true), 0);
        due("off", x.force(0, false), 1);
        due("was so", x.force(0, false), 0);
        due("no event", x.day(0, 0), 0);
        due("there yet", x.many(1), 1);
        due("on", x.force(0, true), 1);
        due("event", x.day(0, 0), 30);
        due("unknown", x.force(1, true), UNKNOWN);
        for (int n : NO_NUMBERS) {
            due("unknown", x.force(n, false), UNKNOWN);
        }
    }

    private static void unnote() {
        promise = "6 unnote";
        LetterDays x = withWideLetters(1);
        due("none", x.unnote(), STATE);
        x.note(EVENT, 0, 0, 30, 4);
        x.note(EVENT, 0, 0, 40, 4);
        due("last", x.unnote(), 1);
        due("by the first", x.day(0, 0), 30);
        due("gone", x.ofNote(1, 0), UNKNOWN);
        due("in force", x.many(2), 1);
        x.force(0, false);
        due("first", x.unnote(), 0);
        due("anew", x.note(UNTIL, 0, 0, 5, 2), 0);
        due("anew in force", x.ofNote(0, 5), 1);
        due("none", x.unnote(), 0);
        due("none", x.unnote(), STATE);
    }

    private static void unletter() {
        promise = "7 unletter";
        LetterDays x = withLetters(3);
        x.tie(2, 0);
        x.tie(0, 0);
        x.tie(1, 0);
        x.tie(2, 2);
        x.note(NEAR, 2, 1, 99, 1);
        due("noted as a", x.unletter(), STATE);
        x.force(0, false);
        due("noted, not in force", x.unletter(), STATE);
        x.unnote();
        x.note(NEAR, 1, 2, 99, 1);
        due("noted as b", x.unletter(), STATE);
        x.unnote();
        x.note(EVENT, 1, 1, 10, 1);
        due("another is noted", x.unletter(), 2);
        due("bundle 0", x.many(3), 2);
        due("bundle 0", x.lies(0, 0), 0);
        due("bundle 0", x.lies(0, 1), 1);
        due("bundle 2", x.many(5), 0);
        due("gone", x.ofLetter(2, 0), UNKNOWN);
        due("noted", x.unletter(), STATE);
        x.unnote();
        due("next", x.unletter(), 1);
        due("next", x.unletter(), 0);
        due("none", x.unletter(), STATE);
        due("anew", x.letter(4, 5), 0);
        due("anew in no bundle", x.ofLetter(0, 3), 0);
    }

    private static void ofLetter() {
        promise = "8 ofLetter";
        LetterDays x = withLetters(3);
        x.note(ANSWER, 1, 0, 1, 1);
        x.note(NEAR, 2, 1, 99, 1);
        x.note(WEEKDAY, 1, 1, 3, 1);
        x.tie(1, 0);
        x.tie(1, 2);
        due("first", x.ofLetter(1, 0), 10);
        due("last", x.ofLetter(1, 1), 19);
        due("notes", x.ofLetter(1, 2), 3);
        due("notes", x.ofLetter(0, 2), 1);
        x.force(1, false);
        due("notes in force", x.ofLetter(1, 2), 2);
        due("notes in force", x.ofLetter(2, 2), 0);
        due("bundles", x.ofLetter(1, 3), 5);
        due("bundles", x.ofLetter(0, 3), 0);
        due("unknown", x.ofLetter(3, 0), UNKNOWN);
        due("unknown ahead of outside", x.ofLetter(3, 4), UNKNOWN);
        due("outside", x.ofLetter(0, 4), OUTSIDE);
        for (int what : NO_NUMBERS) {
            due("outside", x.ofLetter(0, what), OUTSIDE);
            due("unknown", x.ofLetter(what, 0), UNKNOWN);
        }
    }

    private static void ofNote() {
        promise = "9 ofNote";
        LetterDays x = withLetters(3);
        x.note(NEAR, 2, 1, 42, 7);
        x.note(UNTIL, 1, 1, 150, 3);
        int[] first = {NEAR, 2, 1, 42, 7, 1};
        int[] second = {UNTIL, 1, 1, 150, 3, 0};
        x.force(1, false);
        for (int what = 0; what < 6; what++) {
            due("near " + what, x.ofNote(0, what), first[what]);
            due("until " + what, x.ofNote(1, what), second[what]);
        }
        due("unknown", x.ofNote(2, 0), UNKNOWN);
        due("unknown ahead of outside", x.ofNote(2, 6), UNKNOWN);
        due("outside", x.ofNote(0, 6), OUTSIDE);
        for (int what : NO_NUMBERS) {
            due("outside", x.ofNote(0, what), OUTSIDE);
            due("unknown", x.ofNote(what, 0), UNKNOWN);
        }
    }

    private static void agree() {
        promise = "10 agree";
        due("nothing", new LetterDays().agree(), 1);
        LetterDays x = withWideLetters(3);
        x.note(ANSWER, 1, 0, 99, 1);
        x.note(ANSWER, 2, 1, 99, 1);
        due("198 days", x.agree(), 1);
        x.note(EVENT, 0, 0, 2, 1);
        due("200 days", x.agree(), 0);
        x.force(2, false);
        due("without it", x.agree(), 1);
        x.note(ANSWER, 0, 2, 0, 1);
        due("a ring", x.agree(), 0);
        LetterDays y = withWideLetters(2);
        y.note(WEEKDAY, 0, 0, 1, 1);
        y.note(WEEKDAY, 1, 1, 3, 1);
        y.note(NEAR, 0, 1, 1, 1);
        due("weekdays two apart, one day near", y.agree(), 0);
        y.unnote();
        y.note(NEAR, 0, 1, 2, 1);
        due("two days near", y.agree(), 1);
        LetterDays z = withWideLetters(1);
        z.note(WEEKDAY, 0, 0, 1, 1);
        z.note(WEEKDAY, 0, 0, 1, 1);
        due("the same weekday twice", z.agree(), 1);
        z.note(WEEKDAY, 0, 0, 2, 1);
        due("two weekdays", z.agree(), 0);
        z.stamp(0, 2, 7);
        z.force(2, false);
        due("no such weekday in the stamp", z.agree(), 0);
        z.stamp(0, 2, 8);
        due("the last day", z.agree(), 1);
    }

    private static void day() {
        promise = "11 day";
        LetterDays x = withLetters(2);
        due("earliest", x.day(1, 0), 10);
        due("latest", x.day(1, 1), 19);
        x.note(ANSWER, 1, 0, 15, 1);
        due("by an answer", x.day(1, 0), 15);
        due("by an answer", x.day(0, 1), 4);
        x.note(WEEKDAY, 1, 1, 3, 1);
        due("by a weekday", x.day(1, 0), 17);
        due("by a weekday", x.day(1, 1), 17);
        due("by both", x.day(0, 1), 2);
        due("unknown", x.day(2, 0), UNKNOWN);
        due("unknown ahead of outside", x.day(2, 2), UNKNOWN);
        due("outside", x.day(0, 2), OUTSIDE);
        due("outside", x.day(0, -1), OUTSIDE);
    }

    private static void can() {
        promise = "12 can";
        LetterDays x = withWideLetters(2);
        x.note(WEEKDAY, 0, 0, 0, 1);
        x.note(NEAR, 1, 0, 1, 1);
        due("weekday", x.can(0, 0), 1);
        due("not that weekday", x.can(0, 1), 0);
        due("near a weekday", x.can(1, 6), 1);
        due("near a weekday", x.can(1, 7), 1);
        due("near a weekday", x.can(1, 8), 1);
        due("between", x.can(1, 9), 0);
        due("between", x.can(1, 5), 0);
        due("last", x.can(1, 197), 1);
        due("behind the last", x.can(1, 198), 0);
        due("edge", x.can(1, 199), 0);
        due("unknown", x.can(2, 0), UNKNOWN);
        due("unknown ahead of outside", x.can(2, 200), UNKNOWN);
        due("outside", x.can(0, 200), OUTSIDE);
        due("outside", x.can(0, -1), OUTSIDE);
        due("outside", x.can(0, Integer.MAX_VALUE), OUTSIDE);
    }

    private static void left() {
        promise = "13 left";
        LetterDays x = withWideLetters(2);
        due("all", x.left(0), 200);
        x.note(WEEKDAY, 0, 0, 0, 1);
        due("weekdays", x.left(0), 29);
        x.note(NEAR, 1, 0, 1, 1);
        due("near weekdays", x.left(1), 86);
        x.stamp(1, 2, 7);
        due("near a weekday", x.left(1), 2);
        due("one", x.left(0), 1);
        due("unknown", x.left(2), UNKNOWN);
        due("unknown", x.left(-1), UNKNOWN);
    }

    private static void gap() {
        promise = "14 gap";
        LetterDays x = withLetters(2);
        due("by stamps", x.gap(0, 1), 1001);
        due("by stamps", x.gap(1, 0), 981);
        x.note(ANSWER, 1, 0, 8, 1);
        due("by an answer", x.gap(0, 1), 1008);
        x.note(WEEKDAY, 0, 0, 0, 1);
        x.note(WEEKDAY, 1, 1, 1, 1);
        due("by weekdays, 7 and 15", x.gap(0, 1), 1008);
        due("by weekdays, 0 and 15", x.gap(1, 0), 985);
        LetterDays y = withWideLetters(2);
        due("widest", y.gap(0, 1), 801);
        due("unknown", x.gap(0, 2), UNKNOWN);
        due("unknown", x.gap(2, 0), UNKNOWN);
        due("one", x.gap(1, 1), UNKNOWN);
        due("below", x.gap(-1, 0), UNKNOWN);
    }

    private static void ahead() {
        promise = "15 ahead";
        LetterDays x = withWideLetters(4);
        x.note(ANSWER, 1, 0, 1, 1);
        x.note(ANSWER, 2, 1, 0, 1);
        due("of 0", x.ahead(0, 0), 0);
        due("behind 0", x.ahead(0, 1), 6);
        due("of 1", x.ahead(1, 0), 1);
        due("the same day may be", x.ahead(1, 1), 0);
        due("of 2", x.ahead(2, 0), 1);
        due("of 3", x.ahead(3, 0), 0);
        x.note(WEEKDAY, 1, 1, 0, 1);
        x.note(WEEKDAY, 2, 2, 1, 1);
        due("other weekdays", x.ahead(1, 1), 4);
        due("other weekdays", x.ahead(2, 0), 3);
        due("unknown", x.ahead(4, 0), UNKNOWN);
        due("unknown ahead of outside", x.ahead(4, 2), UNKNOWN);
        due("outside", x.ahead(0, 2), OUTSIDE);
        due("outside", x.ahead(0, -1), OUTSIDE);
    }

    private static void orders() {
        promise = "16 orders";
        due("no letters", new LetterDays().orders(), 1);
        due("all in a row", withLetters(8).orders(), 1);
        LetterDays x = withWideLetters(8);
        due("free", x.orders(), 40320);
        x.note(ANSWER, 0, 1, 1, 1);
        due("half", x.orders(), 20160);
        x.note(ANSWER, 0, 2, 1, 1);
        due("a third", x.orders(), 13440);
        x.note(ANSWER, 3, 0, 0, 1);
        due("behind those, but not behind the one on whose day it may be", x.orders(), 6720);
    }

    private static void order() {
        promise = "17 order";
        LetterDays x = withWideLetters(4);
        x.note(ANSWER, 0, 3, 1, 1);
        x.note(ANSWER, 2, 0, 1, 1);
        int[] row = {1, 3, 0, 2};
        for (int k = 0; k < 4; k++) {
            due("place " + k, x.order(k), row[k]);
        }
        due("not so many", x.order(4), NONE);
        due("not so many", x.order(7), NONE);
        due("outside", x.order(8), OUTSIDE);
        due("outside", x.order(-1), OUTSIDE);
        due("none at all", new LetterDays().order(0), NONE);
        LetterDays y = new LetterDays();
        for (int a = 0; a < 8; a++) {
            y.letter(70 - 10 * a, 79 - 10 * a);
        }
        for (int k = 0; k < 8; k++) {
            due("turned " + k, y.order(k), 7 - k);
        }
    }

    private static void knot() {
        promise = "18 knot";
        LetterDays x = withWideLetters(3);
        due("none", x.knot(0), 0);
        due("none", x.knot(1), 0);
        x.note(ANSWER, 0, 1, 1, 5);
        x.note(ANSWER, 1, 2, 1, 4);
        x.note(ANSWER, 2, 0, 1, 3);
        due("the lightest of a ring", x.knot(0), 4);
        due("its weight", x.knot(1), 3);
        x.note(ANSWER, 1, 0, 1, 2);
        due("two rings share the first note", x.knot(0), 1);
        due("its weight, two together weigh as much", x.knot(1), 5);
        x.force(0, false);
        due("no ring", x.knot(0), 0);
        due("no ring", x.knot(1), 0);
        x.force(0, true);
        x.note(EVENT, 0, 0, 100, 9);
        x.note(UNTIL, 0, 0, 99, 9);
        due("another one, the lesser set", x.knot(0), 17);
        due("their weight", x.knot(1), 14);
        due("outside", x.knot(2), OUTSIDE);
        due("outside", x.knot(-1), OUTSIDE);
        LetterDays y = withLetters(1);
        for (int n = 0; n < 10; n++) {
            y.note(EVENT, 0, 0, 10 + n, 9);
        }
        due("all of them", y.knot(0), 1023);
        due("all of them", y.knot(1), 90);
        y.force(5, false);
        due("all in force", y.knot(0), 991);
        due("outside ahead of all", y.knot(9), OUTSIDE);
    }

    private static void knotTies() {
        promise = "18 knot, ties";
        LetterDays x = withWideLetters(1);
        x.note(EVENT, 0, 0, 100, 1);
        x.note(EVENT, 0, 0, 101, 1);
        x.note(UNTIL, 0, 0, 99, 2);
        due("of one weight the fewest notes", x.knot(0), 4);
        due("of one weight", x.knot(1), 2);
        LetterDays y = withWideLetters(1);
        y.note(WEEKDAY, 0, 0, 2, 3);
        y.note(WEEKDAY, 0, 0, 3, 3);
        y.note(WEEKDAY, 0, 0, 4, 3);
        due("of one number the least set", y.knot(0), 3);
        due("of one number", y.knot(1), 6);
        y.note(WEEKDAY, 0, 0, 2, 1);
        due("two that agree stay", y.knot(0), 6);
    }

    private static void core() {
        promise = "19 core";
        due("nothing", new LetterDays().core(), STATE);
        LetterDays x = withWideLetters(3);
        x.note(ANSWER, 0, 1, 1, 5);
        due("they agree", x.core(), STATE);
        x.note(ANSWER, 1, 0, 1, 4);
        due("both", x.core(), 3);
        x.note(ANSWER, 1, 2, 1, 1);
        x.note(ANSWER, 2, 0, 1, 1);
        due("the last ones go first", x.core(), 3);
        x.force(1, false);
        due("of those in force", x.core(), 13);
        x.note(EVENT, 2, 2, 3, 1);
        due("what is not in the ring goes", x.core(), 13);
        LetterDays y = withLetters(1);
        y.note(UNTIL, 0, 0, 5, 1);
        y.note(EVENT, 0, 0, 10, 1);
        due("one against its stamp", y.core(), 2);
    }

    private static void worst() {
        promise = "20 worst";
        LetterDays x = withLetters(3);
        due("the others'", x.worst(0), 18);
        x.note(ANSWER, 1, 0, 10, 1);
        due("by the least day of 0", x.worst(0), 18);
        due("by the greatest day of 1", x.worst(1), 18);
        x.note(NEAR, 1, 0, 10, 1);
        due("fixed by it", x.worst(0), 9);
        due("fixed by it", x.worst(1), 9);
        due("not fixed", x.worst(2), 18);
        due("one alone", withWideLetters(1).worst(0), 0);
        due("unknown", x.worst(3), UNKNOWN);
        due("unknown", x.worst(-1), UNKNOWN);
        LetterDays y = withWideLetters(2);
        y.stamp(0, 0, 9);
        y.note(NEAR, 0, 1, 3, 1);
        due("a middle day leaves the most", y.worst(0), 6);
        y.note(WEEKDAY, 1, 1, 1, 1);
        due("but by weekday", y.worst(0), 0);
        due("of the other one", y.worst(1), 4);
    }

    private static void best() {
        promise = "21 best";
        due("no letters", new LetterDays().best(), NONE);
        due("of several the least", withLetters(3).best(), 0);
        LetterDays x = withLetters(3);
        x.stamp(1, 10, 30);
        due("the widest", x.best(), 1);
        x.note(WEEKDAY, 1, 1, 5, 1);
        due("a wide one with few days is the widest yet", x.best(), 1);
        x.stamp(2, 100, 140);
        due("another one", x.best(), 2);
    }

    private static void tie() {
        promise = "22 tie";
        LetterDays x = withWideLetters(5);
        due("first", x.tie(2, 0), 0);
        due("same earliest, greater number", x.tie(3, 0), 1);
        due("same earliest, lesser number", x.tie(1, 0), 0);
        x.stamp(3, 50, 60);
        x.stamp(4, 20, 60);
        due("between", x.tie(4, 0), 2);
        x.stamp(1, 90, 99);
        due("behind the last lesser one", x.tie(0, 0), 0);
        int[] row = {0, 1, 2, 4, 3};
        for (int place = 0; place < 5; place++) {
            due("they stay", x.lies(0, place), row[place]);
        }
        due("another bundle", x.tie(0, 2), 0);
        due("in it", x.tie(0, 0), STATE);
        due("letter", x.tie(5, 0), UNKNOWN);
        due("bundle", x.tie(0, 3), UNKNOWN);
        due("bundle", x.tie(0, -1), UNKNOWN);
        LetterDays y = withLetters(3);
        y.tie(1, 1);
        y.tie(0, 1);
        y.stamp(0, 50, 50);
        due("lesser ones on both sides", y.tie(2, 1), 2);
        LetterDays z = withLetters(3);
        z.tie(0, 0);
        z.tie(1, 0);
        z.stamp(1, 0, 0);
        z.stamp(0, 90, 90);
        due("behind the last lesser one, not the first greater", z.tie(2, 0), 2);
        LetterDays w = withWideLetters(2);
        w.tie(1, 0);
        w.note(EVENT, 0, 0, 3, 1);
        due("by the notes", w.tie(0, 0), 1);
    }

    private static void untie() {
        promise = "23 untie";
        LetterDays x = withLetters(3);
        x.tie(0, 1);
        x.tie(1, 1);
        x.tie(2, 1);
        due("middle", x.untie(1, 1), 2);
        due("row", x.lies(1, 0), 0);
        due("row", x.lies(1, 1), 2);
        due("row", x.lies(1, 2), NONE);
        due("not in it", x.untie(1, 1), STATE);
        due("not in it", x.untie(0, 0), STATE);
        due("letter", x.untie(3, 1), UNKNOWN);
        due("letter", x.untie(-1, 1), UNKNOWN);
        due("bundle", x.untie(0, 3), UNKNOWN);
        due("bundle", x.untie(0, -1), UNKNOWN);
        x.note(EVENT, 0, 0, 100, 1);
        due("in a contradiction too", x.untie(0, 1), 1);
        due("last", x.untie(2, 1), 0);
    }

    private static void spread() {
        promise = "24 spread";
        LetterDays x = withLetters(4);
        for (int a = 0; a < 4; a++) {
            x.tie(a, 2);
        }
        x.tie(3, 0);
        x.tie(1, 0);
        due("three", x.spread(2), 3);
        due("one stays", x.many(5), 1);
        due("one stays", x.lies(2, 0), 0);
        due("behind 2 comes 0: two were in it", x.many(3), 1);
        due("behind 2 comes 0", x.lies(0, 0), 2);
        due("one alone", x.spread(0), 0);
        due("empty", x.spread(1), 0);
        LetterDays y = withLetters(3);
        y.tie(0, 0);
        y.tie(1, 0);
        y.tie(2, 0);
        y.stamp(0, 150, 160);
        y.tie(0, 1);
        due("as they lay", y.spread(0), 2);
        due("stays", y.lies(0, 0), 1);
        due("0 was in it, 2 comes behind", y.lies(1, 0), 2);
        due("0 in none of both", y.ofLetter(0, 3), 0);
        LetterDays z = withWideLetters(3);
        z.note(ANSWER, 0, 1, 1, 1);
        z.note(ANSWER, 0, 2, 0, 1);
        z.tie(0, 0);
        z.tie(2, 0);
        due("the same day may be", z.spread(0), 0);
        z.tie(1, 0);
        due("not the same day", z.spread(0), 1);
        due("row", z.lies(1, 0), 0);
        due("bundle", z.spread(3), UNKNOWN);
        due("bundle", z.spread(-1), UNKNOWN);
    }

    private static void lies() {
        promise = "25 lies";
        LetterDays x = withLetters(8);
        for (int a = 7; a >= 0; a--) {
            x.tie(a, 1);
        }
        for (int place = 0; place < 8; place++) {
            due("place " + place, x.lies(1, place), place);
            due("empty", x.lies(0, place), NONE);
        }
        due("place", x.lies(1, 8), OUTSIDE);
        due("place", x.lies(1, -1), OUTSIDE);
        due("bundle", x.lies(3, 0), UNKNOWN);
        due("bundle", x.lies(-1, 0), UNKNOWN);
        due("bundle ahead of place", x.lies(3, 8), UNKNOWN);
    }

    private static void many() {
        promise = "26 many";
        LetterDays x = withLetters(3);
        x.note(EVENT, 0, 0, 1, 9);
        x.note(EVENT, 1, 1, 1, 8);
        x.note(EVENT, 2, 2, 1, 7);
        x.force(1, false);
        x.tie(0, 0);
        x.tie(1, 0);
        x.tie(2, 0);
        x.tie(0, 1);
        x.tie(1, 1);
        x.tie(0, 2);
        int[] due = {3, 3, 2, 3, 2, 1, 16};
        for (int what = 0; what <= 6; what++) {
            due("many(" + what + ")", x.many(what), due[what]);
        }
        due("outside", x.many(7), OUTSIDE);
        for (int what : NO_NUMBERS) {
            due("outside", x.many(what), OUTSIDE);
        }
    }

    private static void contradiction() {
        promise = "11 to 24 in a contradiction";
        LetterDays x = contradicting();
        due("agree", x.agree(), 0);
        due("day", x.day(1, 0), STATE);
        due("day", x.day(1, 2), OUTSIDE);
        due("can", x.can(1, 10), STATE);
        due("can", x.can(1, 200), OUTSIDE);
        due("left", x.left(1), STATE);
        due("left", x.left(3), UNKNOWN);
        due("gap", x.gap(0, 1), STATE);
        due("gap", x.gap(1, 1), UNKNOWN);
        due("ahead", x.ahead(1, 0), STATE);
        due("ahead", x.ahead(1, 2), OUTSIDE);
        due("orders", x.orders(), STATE);
        due("order", x.order(0), STATE);
        due("order ahead of NONE", x.order(7), STATE);
        due("order", x.order(8), OUTSIDE);
        due("worst", x.worst(0), STATE);
        due("worst", x.worst(3), UNKNOWN);
        due("best", x.best(), STATE);
        due("tie", x.tie(2, 0), STATE);
        due("tie", x.tie(2, 3), UNKNOWN);
        due("spread", x.spread(0), STATE);
        due("spread", x.spread(3), UNKNOWN);
        due("lies", x.lies(0, 0), 1);
        due("knot", x.knot(0), 1);
        due("core", x.core(), 1);
        x.stamp(0, 0, 10);
        due("mended by a stamp", x.agree(), 1);
        due("mended by a stamp", x.day(0, 0), 10);
        due("mended by a stamp", x.knot(0), 0);
    }

    private static void refusalsChangeNothing() {
        promise = "refusals";
        LetterDays x = withWideLetters(2);
        x.note(ANSWER, 1, 0, 5, 3);
        x.tie(1, 0);
        int before = digest(x);
        x.letter(5, 4);
        x.stamp(0, 9, 8);
        x.stamp(2, 8, 9);
        x.note(ANSWER, 0, 0, 5, 3);
        x.note(EVENT, 0, 0, 5, 30);
        x.force(1, false);
        x.unletter();
        x.tie(1, 0);
        x.tie(0, 3);
        x.untie(0, 0);
        x.spread(3);
        due("as it was", digest(x), before);
    }

    private static int digest(LetterDays x) {
        int sum = 17;
        for (int what = 0; what <= 6; what++) {
            sum = 31 * sum + x.many(what);
        }
        for (int a = 0; a < 8; a++) {
            for (int what = 0; what < 4; what++) {
                sum = 31 * sum + x.ofLetter(a, what);
            }
            for (int bundle = 0; bundle < 3; bundle++) {
                sum = 31 * sum + x.lies(bundle, a);
            }
            sum = 31 * sum + x.day(a, 0);
            sum = 31 * sum + x.day(a, 1);
        }
        for (int n = 0; n < 10; n++) {
            for (int what = 0; what < 6; what++) {
                sum = 31 * sum + x.ofNote(n, what);
            }
        }
        return sum;
    }
}
