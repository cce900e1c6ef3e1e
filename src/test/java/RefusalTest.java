/**
 * The refusals of each call's line: each alone, two that fit at once, and that a refused call
 * changes nothing: all that can be asked behind it is told as without it.
 */
public final class RefusalTest {
    private static final int UNKNOWN = Run.UNKNOWN, OUTSIDE = Run.OUTSIDE, STATE = Run.STATE, FULL = Run.FULL;

    private static final String[] EMPTY = {};
    private static final String[] BARE = {"letter(0, 40)", "letter(5, 60)"};
    private static final String[] SOME = {
        "letter(0, 40)", "letter(5, 60)", "letter(10, 30)",
        "note(0, 1, 0, 10, 5)", "note(4, 0, 0, 2, 1)", "note(3, 2, 2, 20, 3)", "force(2, false)",
        "tie(0, 0)", "tie(1, 0)", "tie(1, 1)", "tie(2, 2)"};
    /** Eight letters, ten notes, a bundle of all. */
    private static final String[] BRIM = {
        "letter(0, 199)", "letter(1, 198)", "letter(2, 197)", "letter(3, 196)",
        "letter(4, 195)", "letter(5, 194)", "letter(6, 193)", "letter(7, 192)",
        "note(0, 1, 0, 10, 1)", "note(0, 2, 1, 10, 2)", "note(1, 3, 2, 10, 3)", "note(1, 4, 3, 10, 4)",
        "note(2, 5, 5, 10, 5)", "note(2, 6, 6, 10, 6)", "note(3, 6, 6, 100, 7)", "note(3, 0, 0, 100, 8)",
        "note(4, 7, 7, 5, 9)", "note(4, 6, 6, 6, 1)",
        "tie(0, 0)", "tie(1, 0)", "tie(2, 0)", "tie(3, 0)", "tie(4, 0)", "tie(5, 0)", "tie(6, 0)", "tie(7, 0)"};
    /** As SOME, with a note that letter 0 cannot keep. */
    private static final String[] TORN = with(SOME, "note(2, 0, 0, 41, 4)");
    /** As BRIM, but letter 6 lies behind the day until which a note has it. */
    private static final String[] TORN_BRIM = with(BRIM, "stamp(6, 101, 193)");

    public static void main(String[] args) {
        letters();
        stamps();
        noteSorts();
        noteLetters();
        noteNumbers();
        noteFull();
        force();
        unnote();
        unletter();
        ofLetterAndNote();
        days();
        cans();
        lefts();
        gaps();
        aheads();
        orders();
        knots();
        asked();
        ties();
        unties();
        spreads();
        liesAndMany();
        notRefusedInAContradiction();
        anyNumbers();
        Run.end();
    }

    private static String[] with(String[] state, String... more) {
        String[] all = new String[state.length + more.length];
        System.arraycopy(state, 0, all, 0, state.length);
        System.arraycopy(more, 0, all, state.length, more.length);
        return all;
    }

    /** Each call on an object of its own, so that none is used beyond its calls. */
    private static void refused(String[] state, int want, String... calls) {
        String before = new Run().does(state).all();
        for (String call : calls) {
            String behind = new Run().does(state).due(call, want).all();
            if (!behind.equals(before)) {
                Run.fault(call + " was refused, but changed something: " + firstOther(before, behind));
            }
        }
    }

    private static String firstOther(String before, String behind) {
        String[] were = before.split("\n");
        String[] are = behind.split("\n");
        for (int k = 0; k < were.length; k++) {
            if (!were[k].equals(are[k])) {
                return were[k] + " became " + are[k];
            }
        }
        return "nothing";
    }

    private static void letters() {
        Run.sentence("A LETTER: its number. OUTSIDE; FULL.");
        for (String[] state : new String[][] {EMPTY, SOME, TORN}) {
            refused(state, OUTSIDE, "letter(-1, 5)", "letter(-1, -1)", "letter(0, 200)", "letter(199, 200)",
                "letter(200, 200)", "letter(1, 0)", "letter(199, 198)", "letter(199, 0)", "letter(MIN, 0)",
                "letter(0, MAX)", "letter(MIN, MAX)", "letter(MAX, MIN)", "letter(MAX, MAX)", "letter(MIN, MIN)");
        }
        for (String[] state : new String[][] {BRIM, TORN_BRIM}) {
            refused(state, FULL, "letter(0, 199)", "letter(0, 0)", "letter(199, 199)");
            refused(state, OUTSIDE, "letter(-1, 0)", "letter(0, 200)", "letter(1, 0)");
        }
    }

    private static void stamps() {
        Run.sentence("The STAMP of a LETTER becomes so: its FIRST as it was. UNKNOWN; OUTSIDE.");
        refused(EMPTY, UNKNOWN, "stamp(0, 0, 1)", "stamp(-1, 0, 1)");
        refused(SOME, UNKNOWN, "stamp(3, 0, 1)", "stamp(-1, 0, 1)", "stamp(8, 0, 1)", "stamp(MIN, 0, 1)",
            "stamp(MAX, 0, 1)");
        refused(BRIM, UNKNOWN, "stamp(8, 0, 1)", "stamp(-1, 0, 1)");
        refused(SOME, OUTSIDE, "stamp(0, -1, 5)", "stamp(2, -1, -1)", "stamp(0, 0, 200)", "stamp(2, 200, 200)",
            "stamp(0, 1, 0)", "stamp(2, 199, 198)", "stamp(0, MIN, MAX)", "stamp(0, MAX, MIN)");
        refused(SOME, UNKNOWN, "stamp(3, -1, 5)", "stamp(3, 0, 200)", "stamp(-1, 1, 0)");
        refused(TORN, OUTSIDE, "stamp(0, 0, 200)");
    }

    private static void noteSorts() {
        Run.sentence("A NOTE: its number. OUTSIDE: sort;");
        refused(SOME, OUTSIDE, "note(-1, 0, 1, 0, 1)", "note(5, 0, 0, 0, 1)", "note(MIN, 0, 1, 0, 1)",
            "note(MAX, 0, 0, 0, 1)");
        Run.sentence("OUTSIDE: sort; ahead of UNKNOWN: a; b and of FULL");
        refused(EMPTY, OUTSIDE, "note(-1, 0, 0, 0, 1)", "note(5, 0, 1, 0, 1)");
        refused(SOME, OUTSIDE, "note(-1, 3, 0, 0, 1)", "note(5, 3, 3, 0, 1)", "note(-1, 0, 3, 0, 1)",
            "note(5, 0, -1, 0, 1)", "note(5, 0, 0, 200, 1)", "note(-1, 0, 1, -1, 1)", "note(5, 0, 0, 0, 0)");
        refused(BRIM, OUTSIDE, "note(-1, 0, 1, 0, 1)", "note(5, 0, 0, 0, 1)");
    }

    private static void noteLetters() {
        Run.sentence("UNKNOWN: a; b (of ANSWER, NEAR they are one: so, too; of others: it is not a)");
        for (int sort = 0; sort < 5; sort++) {
            String note = "note(" + sort;
            refused(EMPTY, UNKNOWN, note + ", 0, 0, 0, 1)", note + ", 0, 1, 0, 1)");
            refused(SOME, UNKNOWN, note + ", 3, 0, 0, 1)", note + ", -1, 0, 0, 1)", note + ", MIN, 0, 0, 1)",
                note + ", MAX, 0, 0, 1)", note + ", 3, 3, 0, 1)", note + ", -1, -1, 0, 1)",
                note + ", 0, 3, 0, 1)", note + ", 0, -1, 0, 1)", note + ", 0, MIN, 0, 1)", note + ", 0, MAX, 0, 1)");
            refused(SOME, UNKNOWN, sort < 2 ? note + ", 0, 0, 0, 1)" : note + ", 0, 1, 0, 1)",
                sort < 2 ? note + ", 2, 2, 0, 1)" : note + ", 2, 0, 0, 1)");
            Run.sentence("UNKNOWN: a; b ahead of OUTSIDE: d, weight; FULL");
            String wrongB = sort < 2 ? ", 0, 0" : ", 0, 1";
            refused(SOME, UNKNOWN, note + ", 3, 0, -1, 1)", note + ", 3, 3, 200, 1)", note + ", 3, 0, 0, 0)",
                note + ", 3, 3, 0, 10)", note + ", 0, 3, -1, 1)", note + ", 0, 3, 0, 10)",
                note + wrongB + ", -1, 1)", note + wrongB + ", 200, 1)", note + wrongB + ", 0, 0)",
                note + wrongB + ", 0, 10)");
            refused(BRIM, UNKNOWN, note + ", 8, 0, 0, 1)", note + ", 8, 8, 0, 1)", note + ", 0, 8, 0, 1)",
                note + wrongB + ", 0, 1)");
        }
    }

    private static void noteNumbers() {
        int[] most = {99, 99, 199, 199, 6};
        for (int sort = 0; sort < 5; sort++) {
            String note = "note(" + sort + (sort < 2 ? ", 0, 1, " : ", 1, 1, ");
            Run.sentence("OUTSIDE: d, weight");
            refused(SOME, OUTSIDE, note + "-1, 1)", note + (most[sort] + 1) + ", 1)", note + "MIN, 1)", note + "MAX, 1)",
                note + "0, 0)", note + "0, 10)", note + "0, -1)", note + "0, MIN)", note + "0, MAX)",
                note + most[sort] + ", 0)", note + most[sort] + ", 10)", note + "-1, 0)", note + "200, 10)");
            Run.sentence("OUTSIDE: d, weight ahead of FULL");
            refused(BRIM, OUTSIDE, note + "-1, 1)", note + (most[sort] + 1) + ", 9)", note + "0, 0)",
                note + most[sort] + ", 10)");
        }
    }

    private static void noteFull() {
        Run.sentence("FULL of note");
        for (String[] state : new String[][] {BRIM, TORN_BRIM}) {
            refused(state, FULL, "note(0, 0, 1, 0, 1)", "note(0, 7, 6, 99, 9)", "note(1, 0, 1, 0, 1)",
                "note(1, 7, 6, 99, 9)", "note(2, 0, 0, 0, 1)", "note(2, 7, 7, 199, 9)", "note(3, 0, 0, 0, 1)",
                "note(3, 7, 7, 199, 9)", "note(4, 0, 0, 0, 1)", "note(4, 7, 7, 6, 9)");
        }
    }

    private static void force() {
        Run.sentence("A NOTE is in FORCE (true), or not: 1; 0: it was so. UNKNOWN.");
        for (boolean is : new boolean[] {true, false}) {
            refused(EMPTY, UNKNOWN, "force(0, " + is + ")", "force(-1, " + is + ")");
            refused(SOME, UNKNOWN, "force(3, " + is + ")", "force(-1, " + is + ")", "force(9, " + is + ")",
                "force(10, " + is + ")", "force(32, " + is + ")", "force(MIN, " + is + ")", "force(MAX, " + is + ")");
            refused(BRIM, UNKNOWN, "force(10, " + is + ")", "force(-1, " + is + ")");
            refused(TORN, UNKNOWN, "force(4, " + is + ")");
        }
    }

    private static void unnote() {
        Run.sentence("The last NOTE is no more: how many are left. STATE: there is none.");
        refused(EMPTY, STATE, "unnote()");
        refused(BARE, STATE, "unnote()");
        refused(with(SOME, "unnote()", "unnote()", "unnote()"), STATE, "unnote()");
    }

    private static void unletter() {
        Run.sentence("STATE: there is none, a NOTE (in FORCE or not) is about it.");
        refused(EMPTY, STATE, "unletter()");
        refused(with(BARE, "unletter()", "unletter()"), STATE, "unletter()");
        refused(SOME, STATE, "unletter()");
        refused(with(SOME, "force(2, true)"), STATE, "unletter()");
        refused(with(BARE, "note(0, 1, 0, 5, 1)"), STATE, "unletter()");
        refused(with(BARE, "note(0, 0, 1, 5, 1)"), STATE, "unletter()");
        refused(with(BARE, "note(1, 0, 1, 5, 1)", "force(0, false)"), STATE, "unletter()");
        refused(with(BARE, "note(1, 1, 0, 5, 1)", "force(0, false)"), STATE, "unletter()");
        refused(BRIM, STATE, "unletter()");
        refused(TORN, STATE, "unletter()");
    }

    private static void ofLetterAndNote() {
        Run.sentence("Of a LETTER: UNKNOWN; OUTSIDE.");
        refused(EMPTY, UNKNOWN, "ofLetter(0, 0)", "ofLetter(-1, 3)");
        refused(SOME, UNKNOWN, "ofLetter(3, 0)", "ofLetter(-1, 0)", "ofLetter(MIN, 2)", "ofLetter(MAX, 3)");
        refused(BRIM, UNKNOWN, "ofLetter(8, 0)", "ofLetter(-1, 3)");
        refused(SOME, OUTSIDE, "ofLetter(0, -1)", "ofLetter(0, 4)", "ofLetter(2, MIN)", "ofLetter(2, MAX)");
        refused(SOME, UNKNOWN, "ofLetter(3, 4)", "ofLetter(-1, -1)");
        Run.sentence("Of a NOTE: UNKNOWN; OUTSIDE.");
        refused(EMPTY, UNKNOWN, "ofNote(0, 0)", "ofNote(-1, 5)");
        refused(SOME, UNKNOWN, "ofNote(3, 0)", "ofNote(-1, 0)", "ofNote(MIN, 2)", "ofNote(MAX, 5)");
        refused(BRIM, UNKNOWN, "ofNote(10, 0)", "ofNote(-1, 5)");
        refused(SOME, OUTSIDE, "ofNote(0, -1)", "ofNote(0, 6)", "ofNote(2, MIN)", "ofNote(2, MAX)");
        refused(SOME, UNKNOWN, "ofNote(3, 6)", "ofNote(-1, -1)");
    }

    private static void days() {
        Run.sentence("EARLIEST (what 0), LATEST (1) of a LETTER. UNKNOWN; OUTSIDE; STATE: they CONTRADICT.");
        refused(EMPTY, UNKNOWN, "day(0, 0)", "day(-1, 1)");
        refused(SOME, UNKNOWN, "day(3, 0)", "day(-1, 1)", "day(MIN, 0)", "day(MAX, 1)");
        refused(BRIM, UNKNOWN, "day(8, 0)", "day(-1, 1)");
        refused(SOME, OUTSIDE, "day(0, -1)", "day(0, 2)", "day(2, MIN)", "day(2, MAX)");
        refused(TORN, STATE, "day(0, 0)", "day(0, 1)", "day(2, 0)", "day(2, 1)");
        refused(TORN_BRIM, STATE, "day(0, 0)", "day(7, 1)");
        refused(SOME, UNKNOWN, "day(3, 2)", "day(-1, -1)");
        refused(TORN, UNKNOWN, "day(3, 0)", "day(-1, 1)", "day(3, 2)");
        refused(TORN, OUTSIDE, "day(0, 2)", "day(0, -1)");
    }

    private static void cans() {
        Run.sentence("CAN: 1, 0. UNKNOWN; OUTSIDE: day; STATE: they CONTRADICT.");
        refused(EMPTY, UNKNOWN, "can(0, 0)", "can(-1, 199)");
        refused(SOME, UNKNOWN, "can(3, 0)", "can(-1, 199)", "can(MIN, 0)", "can(MAX, 0)");
        refused(BRIM, UNKNOWN, "can(8, 0)", "can(-1, 199)");
        refused(SOME, OUTSIDE, "can(0, -1)", "can(0, 200)", "can(2, MIN)", "can(2, MAX)");
        refused(TORN, STATE, "can(0, 0)", "can(2, 199)");
        refused(TORN_BRIM, STATE, "can(0, 0)", "can(7, 199)");
        refused(SOME, UNKNOWN, "can(3, 200)", "can(-1, -1)");
        refused(TORN, UNKNOWN, "can(3, 0)", "can(-1, 0)", "can(3, 200)");
        refused(TORN, OUTSIDE, "can(0, -1)", "can(0, 200)");
    }

    private static void lefts() {
        Run.sentence("How many DAYS a LETTER has in WAYS. UNKNOWN; STATE: they CONTRADICT.");
        refused(EMPTY, UNKNOWN, "left(0)", "left(-1)");
        refused(SOME, UNKNOWN, "left(3)", "left(-1)", "left(MIN)", "left(MAX)");
        refused(BRIM, UNKNOWN, "left(8)", "left(-1)");
        refused(TORN, STATE, "left(0)", "left(2)");
        refused(TORN, UNKNOWN, "left(3)", "left(-1)");
    }

    private static void gaps() {
        Run.sentence("GAP, with 1000 more. UNKNOWN: LETTERS (they are one: so, too); STATE: they CONTRADICT.");
        refused(EMPTY, UNKNOWN, "gap(0, 1)", "gap(0, 0)", "gap(-1, -1)");
        refused(SOME, UNKNOWN, "gap(3, 0)", "gap(0, 3)", "gap(-1, 0)", "gap(0, -1)", "gap(MIN, 0)", "gap(0, MAX)",
            "gap(3, 3)", "gap(0, 0)", "gap(2, 2)");
        refused(BRIM, UNKNOWN, "gap(8, 0)", "gap(0, 8)", "gap(7, 7)");
        refused(TORN, STATE, "gap(0, 1)", "gap(2, 1)");
        refused(TORN, UNKNOWN, "gap(3, 0)", "gap(0, 3)", "gap(0, 0)", "gap(1, 1)");
    }

    private static void aheads() {
        Run.sentence("LETTERS that are AHEAD of a LETTER: UNKNOWN; OUTSIDE; STATE: they CONTRADICT.");
        refused(EMPTY, UNKNOWN, "ahead(0, 0)", "ahead(-1, 1)");
        refused(SOME, UNKNOWN, "ahead(3, 0)", "ahead(-1, 1)", "ahead(MIN, 0)", "ahead(MAX, 1)");
        refused(BRIM, UNKNOWN, "ahead(8, 0)", "ahead(-1, 1)");
        refused(SOME, OUTSIDE, "ahead(0, -1)", "ahead(0, 2)", "ahead(2, MIN)", "ahead(2, MAX)");
        refused(TORN, STATE, "ahead(0, 0)", "ahead(0, 1)", "ahead(2, 0)", "ahead(2, 1)");
        refused(SOME, UNKNOWN, "ahead(3, 2)", "ahead(-1, -1)");
        refused(TORN, UNKNOWN, "ahead(3, 0)", "ahead(-1, 1)", "ahead(3, 2)");
        refused(TORN, OUTSIDE, "ahead(0, 2)", "ahead(0, -1)");
    }

    private static void orders() {
        Run.sentence("How many ORDERS there are (1 without LETTERS). STATE: they CONTRADICT.");
        refused(TORN, STATE, "orders()");
        refused(TORN_BRIM, STATE, "orders()");
        Run.sentence("OUTSIDE: k (0 .. 7); STATE: they CONTRADICT.");
        for (String[] state : new String[][] {EMPTY, SOME, BRIM, TORN, TORN_BRIM}) {
            refused(state, OUTSIDE, "order(-1)", "order(8)", "order(MIN)", "order(MAX)");
        }
        refused(TORN, STATE, "order(0)", "order(2)", "order(3)", "order(7)");
        refused(TORN_BRIM, STATE, "order(0)", "order(7)");
    }

    private static void knots() {
        Run.sentence("KNOT: the set (what 0), its WEIGHT (1). OUTSIDE.");
        for (String[] state : new String[][] {EMPTY, SOME, BRIM, TORN, TORN_BRIM}) {
            refused(state, OUTSIDE, "knot(-1)", "knot(2)", "knot(MIN)", "knot(MAX)");
        }
        Run.sentence("CORE, as a set. STATE: they do not CONTRADICT.");
        for (String[] state : new String[][] {EMPTY, BARE, SOME, BRIM, with(TORN, "force(3, false)")}) {
            refused(state, STATE, "core()");
        }
    }

    private static void asked() {
        Run.sentence("WORST of a LETTER. UNKNOWN; STATE: they CONTRADICT.");
        refused(EMPTY, UNKNOWN, "worst(0)", "worst(-1)");
        refused(SOME, UNKNOWN, "worst(3)", "worst(-1)", "worst(MIN)", "worst(MAX)");
        refused(BRIM, UNKNOWN, "worst(8)", "worst(-1)");
        refused(TORN, STATE, "worst(0)", "worst(2)");
        refused(TORN, UNKNOWN, "worst(3)", "worst(-1)");
        Run.sentence("BEST; NONE: there are no LETTERS. STATE: they CONTRADICT.");
        refused(TORN, STATE, "best()");
        refused(TORN_BRIM, STATE, "best()");
    }

    private static void ties() {
        Run.sentence("which place it has (from 0 on). UNKNOWN: LETTER, BUNDLE; STATE: it is in it, they CONTRADICT.");
        refused(EMPTY, UNKNOWN, "tie(0, 0)", "tie(-1, 0)", "tie(0, 3)");
        refused(SOME, UNKNOWN, "tie(3, 0)", "tie(-1, 0)", "tie(MIN, 0)", "tie(MAX, 0)", "tie(0, 3)", "tie(0, -1)",
            "tie(0, MIN)", "tie(0, MAX)", "tie(3, 3)");
        refused(BRIM, UNKNOWN, "tie(8, 1)", "tie(-1, 1)");
        refused(SOME, STATE, "tie(0, 0)", "tie(1, 0)", "tie(1, 1)", "tie(2, 2)");
        refused(BRIM, STATE, "tie(0, 0)", "tie(7, 0)");
        refused(TORN, STATE, "tie(0, 1)", "tie(2, 0)", "tie(0, 0)");
        refused(TORN, UNKNOWN, "tie(3, 0)", "tie(0, 3)", "tie(-1, 2)", "tie(0, -1)");
    }

    private static void unties() {
        Run.sentence("how many are left in it. UNKNOWN: LETTER, BUNDLE; STATE: it is not in it.");
        refused(EMPTY, UNKNOWN, "untie(0, 0)", "untie(-1, 0)", "untie(0, 3)");
        refused(SOME, UNKNOWN, "untie(3, 0)", "untie(-1, 0)", "untie(MIN, 0)", "untie(MAX, 0)", "untie(0, 3)",
            "untie(0, -1)", "untie(0, MIN)", "untie(0, MAX)", "untie(3, 3)");
        refused(BRIM, UNKNOWN, "untie(8, 0)", "untie(-1, 0)");
        refused(SOME, STATE, "untie(0, 1)", "untie(0, 2)", "untie(2, 0)", "untie(1, 2)");
        refused(BRIM, STATE, "untie(0, 1)", "untie(7, 2)");
        refused(TORN, STATE, "untie(0, 1)");
        refused(TORN, UNKNOWN, "untie(3, 0)", "untie(0, 3)");
    }

    private static void spreads() {
        Run.sentence("A BUNDLE is SPREAD: how many go out. UNKNOWN; STATE: they CONTRADICT.");
        for (String[] state : new String[][] {EMPTY, SOME, BRIM, TORN, TORN_BRIM}) {
            refused(state, UNKNOWN, "spread(-1)", "spread(3)", "spread(MIN)", "spread(MAX)");
        }
        refused(TORN, STATE, "spread(0)", "spread(1)", "spread(2)");
        refused(with(BARE, "note(2, 0, 0, 41, 1)"), STATE, "spread(0)", "spread(1)", "spread(2)");
    }

    private static void liesAndMany() {
        Run.sentence("UNKNOWN: BUNDLE; OUTSIDE: place (0 .. 7).");
        for (String[] state : new String[][] {EMPTY, SOME, BRIM, TORN}) {
            refused(state, UNKNOWN, "lies(-1, 0)", "lies(3, 0)", "lies(MIN, 7)", "lies(MAX, 7)");
            refused(state, OUTSIDE, "lies(0, -1)", "lies(0, 8)", "lies(2, MIN)", "lies(2, MAX)");
            refused(state, UNKNOWN, "lies(3, 8)", "lies(-1, -1)");
        }
        Run.sentence("6 WEIGHT of all NOTES in FORCE. OUTSIDE.");
        for (String[] state : new String[][] {EMPTY, SOME, BRIM, TORN}) {
            refused(state, OUTSIDE, "many(-1)", "many(7)", "many(MIN)", "many(MAX)");
        }
    }

    private static void notRefusedInAContradiction() {
        Run.sentence("of a call's line the first that fits is answered: no STATE where none is told");
        new Run().does(TORN)
            .due("letter(1, 2)", 3).due("unletter()", 3).due("stamp(2, 11, 29)", 10)
            .due("note(3, 1, 1, 50, 1)", 4).due("unnote()", 4).due("force(2, true)", 1).due("force(2, true)", 0)
            .due("ofLetter(0, 1)", 40).due("ofLetter(1, 3)", 3).due("ofNote(3, 3)", 41)
            .due("agree()", 0).due("knot(0)", 8).due("knot(1)", 4).due("core()", 8)
            .due("untie(0, 0)", 1).due("lies(0, 0)", 1).due("lies(0, 1)", Run.NONE)
            .due("many(0)", 3).due("many(6)", 13).due("unnote()", 3).due("agree()", 1);
    }

    /** Numbers at and beyond every edge, in all places at once: nothing may be thrown. */
    private static void anyNumbers() {
        Run.sentence("No call may ever throw or fail to end, for any arguments in any state");
        String[] one = {"left(", "worst(", "order(", "knot(", "spread(", "many("};
        String[] two = {"letter(", "ofLetter(", "ofNote(", "day(", "can(", "gap(", "ahead(", "tie(", "untie(", "lies("};
        String[] edges = {"MIN", "-1", "0", "1", "2", "3", "7", "8", "10", "99", "199", "200", "MAX"};
        for (String[] state : new String[][] {EMPTY, SOME, BRIM, TORN, TORN_BRIM}) {
            for (String call : one) {
                Run run = new Run().does(state);
                for (String edge : edges) {
                    run.ask(call + edge + ")");
                }
            }
            for (String call : two) {
                Run run = new Run().does(state);
                for (String edge : edges) {
                    for (String other : edges) {
                        run.ask(call + edge + ", " + other + ")");
                    }
                }
            }
            anyStamps(state, edges);
            anyNotes(state);
        }
    }

    private static void anyStamps(String[] state, String[] edges) {
        for (String a : edges) {
            Run run = new Run().does(state);
            run.ask("force(" + a + ", true)");
            run.ask("force(" + a + ", false)");
            for (String first : edges) {
                for (String last : edges) {
                    run.ask("stamp(" + a + ", " + first + ", " + last + ")");
                }
            }
            run.all();
        }
    }

    private static void anyNotes(String[] state) {
        String[] sorts = {"MIN", "-1", "0", "1", "2", "3", "4", "5", "MAX"};
        String[] few = {"MIN", "-1", "0", "1", "8", "MAX"};
        for (String sort : sorts) {
            for (String a : few) {
                for (String b : few) {
                    Run run = new Run().does(state);
                    for (String d : few) {
                        for (String weight : few) {
                            run.ask("note(" + sort + ", " + a + ", " + b + ", " + d + ", " + weight + ")");
                        }
                    }
                    run.ask("agree()");
                    run.ask("knot(0)");
                    run.ask("core()");
                }
            }
        }
    }
}
