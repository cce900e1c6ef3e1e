/**
 * The sentences of the document that name a boundary case, each under its words or a short form of
 * them: the last value that is taken and the first that is not, on both sides; empty and full; one
 * and none; where numbers go round. (The refusals of each call's line are in RefusalTest.)
 */
public final class BoundaryTest {
    private static final int UNKNOWN = Run.UNKNOWN, OUTSIDE = Run.OUTSIDE, STATE = Run.STATE, FULL = Run.FULL;
    private static final int NONE = Run.NONE;

    public static void main(String[] args) {
        calls();
        newObject();
        setsAsBits();
        asItIsWhenAsked();
        answersOfOldNotesAndLetters();
        daysAndStamps();
        howManyLetters();
        howManyNotes();
        noteAtFirst();
        answer();
        near();
        event();
        until();
        weekday();
        noOtherLetter();
        contradict();
        earliestAndLatest();
        daysInWays();
        gap();
        ahead();
        orders();
        theFirstOrder();
        knot();
        knotOfSeveral();
        core();
        worst();
        best();
        bundlesAtFirst();
        tied();
        tiedByEarliest();
        spread();
        spreadRound();
        spreadIntoOneThatHasIt();
        stampAnswers();
        forceAnswers();
        unnoteAnswers();
        unletterAnswers();
        ofLetter();
        ofNote();
        orderPlaces();
        untie();
        lies();
        many();
        Run.end();
    }

    private static Run wide(int letters) {
        Run run = new Run();
        for (int a = 0; a < letters; a++) {
            run.due("letter(0, 199)", a);
        }
        return run;
    }

    /** Letters of ten days each, one behind the other. */
    private static Run inARow(int letters) {
        Run run = new Run();
        for (int a = 0; a < letters; a++) {
            run.due("letter(" + 10 * a + ", " + (10 * a + 9) + ")", a);
        }
        return run;
    }

    private static void calls() {
        Run.sentence("An object is used for at most 512 calls after it has been made");
        Run stamps = wide(1);
        int before = 0;
        for (int call = 2; call < 512; call++) {
            int first = call % 200;
            stamps.due("stamp(0, " + first + ", 199)", before);
            before = first;
        }
        stamps.due("day(0, 0)", before);
        Run letters = new Run();
        for (int call = 0; call < 512; call += 16) {
            for (int a = 0; a < 8; a++) {
                letters.due("letter(" + a + ", 199)", a);
            }
            for (int a = 7; a >= 0; a--) {
                letters.due("unletter()", a);
            }
        }
        Run notes = wide(1);
        for (int call = 1; call < 501; call += 20) {
            for (int n = 0; n < 10; n++) {
                notes.due("note(2, 0, 0, 1, 9)", n);
            }
            for (int n = 9; n >= 0; n--) {
                notes.due("unnote()", n);
            }
        }
        for (int n = 0; n < 10; n++) {
            notes.due("note(2, 0, 0, 1, 9)", n);
        }
        notes.due("note(2, 0, 0, 1, 9)", FULL);
        Run bundles = inARow(2).does("tie(0, 0)", "tie(1, 0)");
        for (int call = 4; call < 508; call += 3) {
            bundles.due("spread(0)", 1).due("untie(1, 1)", 0).due("tie(1, 0)", 1);
        }
        bundles.due("many(3)", 2).due("lies(0, 0)", 0).due("lies(0, 1)", 1).due("lies(0, 2)", NONE);
    }

    private static void newObject() {
        Run.sentence("No LETTERS, no NOTES; BUNDLES are empty.");
        new Run().row("many(", 0, 0, 0, 0, 0, 0, 0)
            .row("lies(0, ", NONE, NONE, NONE, NONE, NONE, NONE, NONE, NONE)
            .row("lies(1, ", NONE, NONE, NONE, NONE, NONE, NONE, NONE, NONE)
            .row("lies(2, ", NONE, NONE, NONE, NONE, NONE, NONE, NONE, NONE)
            .due("ofLetter(0, 0)", UNKNOWN).due("ofNote(0, 0)", UNKNOWN)
            .due("agree()", 1).due("orders()", 1).due("best()", NONE).due("knot(0)", 0).due("knot(1)", 0)
            .due("core()", STATE).due("spread(0)", 0).due("spread(1)", 0).due("spread(2)", 0);
        new Run().row("order(", NONE, NONE, NONE, NONE, NONE, NONE, NONE, NONE).due("order(8)", OUTSIDE);
        Run one = wide(3).does("note(2, 0, 0, 5, 1)", "tie(0, 0)");
        new Run().row("many(", 0, 0, 0, 0, 0, 0, 0);
        one.row("many(", 3, 1, 1, 1, 0, 0, 1);
    }

    private static void setsAsBits() {
        Run.sentence("Sets are told as bits (bit k for number k).");
        inARow(8).due("ahead(7, 0)", 127).due("ahead(0, 1)", 254).due("ahead(0, 0)", 0).due("ahead(7, 1)", 0)
            .due("ahead(1, 0)", 1).due("ahead(6, 1)", 128).due("ahead(3, 0)", 7).due("ahead(3, 1)", 240)
            .does("tie(7, 0)").due("ofLetter(7, 3)", 1).does("tie(7, 1)").due("ofLetter(7, 3)", 3)
            .does("tie(7, 2)").due("ofLetter(7, 3)", 7).does("untie(7, 0)", "untie(7, 1)").due("ofLetter(7, 3)", 4);
        Run last = inARow(1);
        for (int n = 0; n < 9; n++) {
            last.due("note(2, 0, 0, 9, 1)", n);
        }
        last.due("note(2, 0, 0, 10, 9)", 9).due("knot(0)", 512).due("core()", 512)
            .does("stamp(0, 0, 8)").due("knot(0)", 1023).due("core()", 1);
    }

    private static void asItIsWhenAsked() {
        Run.sentence("All that is told is by how all is when it is asked.");
        Run before = wide(2).does("note(0, 1, 0, 5, 2)", "note(2, 0, 0, 10, 3)");
        before.due("day(1, 0)", 15).due("left(1)", 185).due("gap(0, 1)", 1005).due("ahead(1, 0)", 1)
            .due("orders()", 1).due("order(0)", 0).due("worst(0)", 184).due("best()", 0).due("knot(0)", 0);
        before.due("letter(0, 1)", 2).due("ahead(2, 1)", 3).due("orders()", 1).due("order(0)", 2)
            .due("worst(0)", 185).due("can(2, 1)", 1).due("unletter()", 2).due("worst(0)", 184).due("order(0)", 0);
        before.due("stamp(0, 100, 120)", 0).due("day(1, 0)", 105).due("left(0)", 21).due("gap(1, 0)", 901)
            .due("worst(0)", 94).due("can(0, 99)", 0).due("stamp(0, 0, 199)", 100).due("can(0, 99)", 1);
        before.due("force(0, false)", 1).due("day(1, 0)", 0).due("ahead(1, 0)", 0).due("orders()", 2)
            .due("gap(0, 1)", 801).due("worst(0)", 199).due("force(0, true)", 1).due("orders()", 1)
            .due("gap(0, 1)", 1005);
        before.due("note(3, 1, 1, 14, 1)", 2).due("agree()", 0).due("day(0, 0)", STATE).due("knot(0)", 4)
            .due("core()", 7).due("force(2, false)", 1).due("agree()", 1).due("knot(0)", 0).due("core()", STATE)
            .due("force(2, true)", 1).due("knot(1)", 1).due("unnote()", 2).due("knot(1)", 0).due("day(0, 0)", 10);
    }

    private static void answersOfOldNotesAndLetters() {
        Run.sentence("The last LETTER is no more (it is in no BUNDLE then); a new one bears its number");
        inARow(3).does("tie(2, 0)", "tie(2, 1)", "tie(2, 2)").due("unletter()", 2).due("letter(50, 60)", 2)
            .due("ofLetter(2, 0)", 50).due("ofLetter(2, 1)", 60).due("ofLetter(2, 2)", 0).due("ofLetter(2, 3)", 0)
            .row("many(", 3, 0, 0, 0, 0, 0, 0).due("day(2, 0)", 50).due("left(2)", 11).due("tie(2, 0)", 0);
        Run.sentence("The last NOTE is no more; a new one bears its number, and is in FORCE (at first)");
        inARow(2).does("note(2, 0, 0, 5, 9)", "force(0, false)").due("unnote()", 0)
            .due("note(3, 1, 1, 15, 2)", 0).row("ofNote(0, ", 3, 1, 1, 15, 2, 1)
            .due("ofLetter(0, 2)", 0).due("ofLetter(1, 2)", 1).due("day(1, 1)", 15).due("many(6)", 2);
    }

    private static void daysAndStamps() {
        Run.sentence("DAYS are 0 .. 199.");
        new Run().due("letter(-1, 0)", OUTSIDE).due("letter(0, 0)", 0).due("letter(199, 200)", OUTSIDE)
            .due("letter(199, 199)", 1).due("letter(0, 200)", OUTSIDE).due("letter(-1, 199)", OUTSIDE)
            .due("letter(0, 199)", 2).due("many(0)", 3)
            .due("day(0, 0)", 0).due("day(0, 1)", 0).due("day(1, 0)", 199).due("day(1, 1)", 199)
            .due("day(2, 0)", 0).due("day(2, 1)", 199).due("left(2)", 200)
            .due("can(2, -1)", OUTSIDE).due("can(2, 0)", 1).due("can(2, 199)", 1).due("can(2, 200)", OUTSIDE)
            .due("stamp(2, -1, 0)", OUTSIDE).due("stamp(2, 0, 0)", 0).due("stamp(2, 199, 200)", OUTSIDE)
            .due("stamp(2, 199, 199)", 0).due("stamp(2, 0, 199)", 199);
        Run.sentence("FIRST no greater than LAST");
        new Run().due("letter(5, 4)", OUTSIDE).due("letter(5, 5)", 0).due("letter(5, 6)", 1)
            .due("stamp(0, 5, 4)", OUTSIDE).due("stamp(0, 4, 4)", 5).due("stamp(0, 4, 5)", 4)
            .due("stamp(0, 1, 0)", OUTSIDE).due("stamp(0, 199, 198)", OUTSIDE).due("ofLetter(0, 1)", 5);
        Run.sentence("its DAY is one of FIRST to LAST");
        new Run().does("letter(50, 53)", "letter(7, 7)").due("can(0, 49)", 0).due("can(0, 50)", 1).due("can(0, 53)", 1)
            .due("can(0, 54)", 0).due("left(0)", 4).due("can(1, 6)", 0).due("can(1, 7)", 1).due("can(1, 8)", 0)
            .due("left(1)", 1).due("day(1, 0)", 7).due("day(1, 1)", 7);
    }

    private static void howManyLetters() {
        Run.sentence("LETTERS, 8 at most, numbered by how many there are ahead (the first one is 0)");
        Run run = wide(8);
        run.due("letter(0, 199)", FULL).due("many(0)", 8).due("ofLetter(7, 1)", 199).due("ofLetter(8, 1)", UNKNOWN)
            .due("unletter()", 7).due("ofLetter(7, 1)", UNKNOWN).due("letter(3, 4)", 7).due("letter(3, 4)", FULL)
            .due("ofLetter(7, 0)", 3);
    }

    private static void howManyNotes() {
        Run.sentence("NOTES, 10 at most, numbered by how many there are ahead (the first one is 0)");
        Run run = wide(2);
        for (int n = 0; n < 10; n++) {
            run.due("note(2, 0, 0, " + n + ", 9)", n).due("force(" + n + ", false)", 1);
        }
        run.due("note(2, 0, 0, 0, 1)", FULL).due("many(1)", 10).due("many(2)", 0).due("ofNote(9, 3)", 9)
            .due("ofNote(10, 3)", UNKNOWN).due("unnote()", 9).due("ofNote(9, 3)", UNKNOWN)
            .due("note(0, 0, 1, 50, 1)", 9).due("note(0, 0, 1, 50, 1)", FULL).due("ofNote(9, 3)", 50);
    }

    private static void noteAtFirst() {
        Run.sentence("a WEIGHT (1 .. 9)");
        wide(2).due("note(0, 0, 1, 5, 0)", OUTSIDE).due("note(0, 0, 1, 5, 1)", 0).due("note(1, 0, 1, 5, 9)", 1)
            .due("note(1, 0, 1, 5, 10)", OUTSIDE).due("many(1)", 2).due("ofNote(0, 4)", 1).due("ofNote(1, 4)", 9)
            .due("many(6)", 10);
        Run.sentence("in FORCE (at first) or not");
        wide(1).due("note(2, 0, 0, 5, 1)", 0).due("ofNote(0, 5)", 1).due("day(0, 0)", 5).due("force(0, true)", 0)
            .due("force(0, false)", 1).due("ofNote(0, 5)", 0).due("day(0, 0)", 0);
    }

    private static void answer() {
        Run.sentence("0 ANSWER (d 0 .. 99): DAY of a is that of b and d, or later.");
        wide(2).due("note(0, 1, 0, -1, 1)", OUTSIDE).due("note(0, 1, 0, 100, 1)", OUTSIDE)
            .does("stamp(0, 50, 50)").due("note(0, 1, 0, 0, 1)", 0)
            .due("can(1, 49)", 0).due("can(1, 50)", 1).due("can(1, 199)", 1).due("left(1)", 150)
            .due("note(0, 1, 0, 7, 1)", 1).due("can(1, 56)", 0).due("can(1, 57)", 1).due("can(1, 199)", 1)
            .due("note(0, 1, 0, 99, 1)", 2).due("can(1, 148)", 0).due("can(1, 149)", 1)
            .does("stamp(0, 100, 100)").due("can(1, 198)", 0).due("can(1, 199)", 1).due("left(1)", 1)
            .does("stamp(0, 101, 101)").due("agree()", 0)
            .does("stamp(0, 0, 199)").due("day(0, 1)", 100).due("day(1, 0)", 99);
    }

    private static void near() {
        Run.sentence("1 NEAR (d 0 .. 99): DAYS of a and b differ by d at most.");
        for (String letters : new String[] {"0, 1", "1, 0"}) {
            wide(2).due("note(1, " + letters + ", -1, 1)", OUTSIDE).due("note(1, " + letters + ", 100, 1)", OUTSIDE)
                .does("stamp(0, 100, 100)").due("note(1, " + letters + ", 99, 1)", 0)
                .due("can(1, 0)", 0).due("can(1, 1)", 1).due("can(1, 199)", 1).due("left(1)", 199)
                .does("stamp(0, 0, 0)").due("can(1, 99)", 1).due("can(1, 100)", 0)
                .does("stamp(0, 199, 199)").due("can(1, 99)", 0).due("can(1, 100)", 1)
                .does("stamp(0, 50, 50)").due("note(1, " + letters + ", 7, 1)", 1)
                .due("can(1, 42)", 0).due("can(1, 43)", 1).due("can(1, 57)", 1).due("can(1, 58)", 0).due("left(1)", 15)
                .due("note(1, " + letters + ", 0, 1)", 2)
                .due("can(1, 49)", 0).due("can(1, 50)", 1).due("can(1, 51)", 0).due("left(1)", 1);
        }
        Run.sentence("NOTES, 10 at most: each of ten NEAR in FORCE is heeded, on both sides");
        Run chain = wide(8).does("stamp(0, 100, 100)");
        for (int a = 1; a < 8; a++) {
            chain.does("note(1, " + (a - 1) + ", " + a + ", 5, 1)");
        }
        chain.due("day(7, 0)", 65).due("day(7, 1)", 135)
            .does("note(1, 1, 0, 1, 1)", "note(1, 3, 4, 2, 1)").due("day(7, 0)", 72).due("day(7, 1)", 128)
            .does("note(1, 7, 6, 3, 1)").due("day(7, 0)", 74).due("day(7, 1)", 126)
            .due("gap(0, 7)", 974).due("gap(7, 0)", 974).due("gap(6, 7)", 997).due("gap(7, 6)", 997);
    }

    private static void event() {
        Run.sentence("2 EVENT (d 0 .. 199): DAY of a is d or later.");
        wide(1).due("note(2, 0, 0, -1, 1)", OUTSIDE).due("note(2, 0, 0, 200, 1)", OUTSIDE)
            .due("note(2, 0, 0, 0, 1)", 0).due("left(0)", 200)
            .due("note(2, 0, 0, 50, 1)", 1).due("can(0, 49)", 0).due("can(0, 50)", 1).due("can(0, 199)", 1)
            .due("left(0)", 150).due("note(2, 0, 0, 199, 1)", 2).due("can(0, 198)", 0).due("can(0, 199)", 1)
            .due("left(0)", 1).does("stamp(0, 0, 198)").due("agree()", 0);
    }

    private static void until() {
        Run.sentence("3 UNTIL (d 0 .. 199): DAY of a is d or earlier.");
        wide(1).due("note(3, 0, 0, -1, 1)", OUTSIDE).due("note(3, 0, 0, 200, 1)", OUTSIDE)
            .due("note(3, 0, 0, 199, 1)", 0).due("left(0)", 200)
            .due("note(3, 0, 0, 50, 1)", 1).due("can(0, 0)", 1).due("can(0, 50)", 1).due("can(0, 51)", 0)
            .due("left(0)", 51).due("note(3, 0, 0, 0, 1)", 2).due("can(0, 0)", 1).due("can(0, 1)", 0)
            .due("left(0)", 1).does("stamp(0, 1, 199)").due("agree()", 0);
    }

    private static void weekday() {
        Run.sentence("4 WEEKDAY (d 0 .. 6): DAY of a leaves d by 7.");
        wide(1).due("note(4, 0, 0, -1, 1)", OUTSIDE).due("note(4, 0, 0, 7, 1)", OUTSIDE).due("many(1)", 0);
        for (int d = 0; d < 7; d++) {
            int last = d < 4 ? 196 + d : 189 + d;
            wide(1).due("note(4, 0, 0, " + d + ", 1)", 0).due("day(0, 0)", d).due("day(0, 1)", last)
                .due("left(0)", d < 4 ? 29 : 28).due("can(0, " + d + ")", 1).due("can(0, " + (d + 1) + ")", 0)
                .due("can(0, " + (d + 6) + ")", 0).due("can(0, " + (d + 7) + ")", 1).due("can(0, " + last + ")", 1)
                .does("stamp(0, 0, " + last + ")").due("day(0, 1)", last)
                .does("stamp(0, 0, " + (last - 1) + ")").due("day(0, 1)", last - 7)
                .does("stamp(0, " + d + ", 199)").due("day(0, 0)", d)
                .does("stamp(0, " + (d + 1) + ", 199)").due("day(0, 0)", d + 7)
                .does("stamp(0, " + (d + 1) + ", " + (d + 6) + ")").due("agree()", 0)
                .does("stamp(0, " + (d + 1) + ", " + (d + 7) + ")").due("agree()", 1).due("left(0)", 1);
        }
    }

    private static void noOtherLetter() {
        Run.sentence("(Of EVENT, UNTIL, WEEKDAY b is the same as a.)");
        Run run = wide(8);
        for (int sort = 2; sort < 5; sort++) {
            run.due("note(" + sort + ", 7, 0, 5, 1)", UNKNOWN).due("note(" + sort + ", 0, 7, 5, 1)", UNKNOWN)
                .due("note(" + sort + ", 7, 7, 5, 1)", sort - 2)
                .due("ofNote(" + (sort - 2) + ", 1)", 7).due("ofNote(" + (sort - 2) + ", 2)", 7);
        }
        run.due("ofLetter(7, 2)", 3).due("ofLetter(0, 2)", 0);
    }

    private static void contradict() {
        Run.sentence("They CONTRADICT, if there is no WAY.");
        new Run().due("agree()", 1).due("letter(5, 5)", 0).due("agree()", 1)
            .does("note(2, 0, 0, 5, 1)", "note(3, 0, 0, 5, 1)", "note(4, 0, 0, 5, 1)").due("agree()", 1)
            .due("left(0)", 1).does("note(2, 0, 0, 6, 1)").due("agree()", 0).does("unnote()").due("agree()", 1)
            .does("note(3, 0, 0, 4, 1)").due("agree()", 0).does("unnote()").due("agree()", 1)
            .does("note(4, 0, 0, 4, 1)").due("agree()", 0).does("force(3, false)").due("agree()", 1);
        Run.sentence("a ring of answers: of no days at all there is a WAY, of one day there is none");
        wide(3).does("note(0, 1, 0, 0, 1)", "note(0, 2, 1, 0, 1)", "note(0, 0, 2, 0, 1)").due("agree()", 1)
            .due("gap(0, 2)", 1000).due("gap(2, 0)", 1000).due("left(1)", 200)
            .does("note(0, 0, 2, 1, 1)").due("agree()", 0);
        Run.sentence("a chain through all DAYS: one WAY, and none");
        Run chain = wide(3).does("note(0, 1, 0, 99, 1)", "note(0, 2, 1, 99, 1)");
        chain.due("day(0, 1)", 1).due("day(2, 0)", 198).does("note(2, 0, 0, 1, 1)").due("agree()", 1)
            .due("left(0)", 1).due("left(1)", 1).due("left(2)", 1).due("day(1, 0)", 100)
            .does("note(3, 2, 2, 198, 1)").due("agree()", 0);
    }

    private static void earliestAndLatest() {
        Run.sentence("EARLIEST, LATEST of a LETTER: its least, its greatest DAY in any WAY.");
        Run chain = wide(8);
        for (int a = 1; a < 8; a++) {
            chain.does("note(0, " + a + ", " + (a - 1) + ", 28, 1)");
        }
        for (int a = 0; a < 8; a++) {
            chain.due("day(" + a + ", 0)", 28 * a).due("day(" + a + ", 1)", 28 * a + 3).due("left(" + a + ")", 4);
        }
        chain.does("note(4, 7, 7, 3, 1)");
        for (int a = 0; a < 8; a++) {
            chain.due("day(" + a + ", 0)", a == 7 ? 199 : 28 * a).due("day(" + a + ", 1)", 28 * a + 3);
        }
        chain.does("note(4, 0, 0, 3, 1)");
        for (int a = 0; a < 8; a++) {
            chain.due("day(" + a + ", 0)", 28 * a + 3).due("left(" + a + ")", 1);
        }
    }

    private static void daysInWays() {
        Run.sentence("CAN: whether it has a DAY in any WAY.");
        wide(2).does("note(4, 0, 0, 0, 1)", "note(1, 1, 0, 2, 1)", "stamp(0, 1, 20)")
            .due("can(1, 4)", 0).due("can(1, 5)", 1).due("can(1, 9)", 1).due("can(1, 10)", 0).due("can(1, 11)", 0)
            .due("can(1, 12)", 1).due("can(1, 16)", 1).due("can(1, 17)", 0)
            .due("can(0, 7)", 1).due("can(0, 14)", 1).due("can(0, 0)", 0).due("can(0, 21)", 0);
        Run.sentence("How many DAYS a LETTER has in WAYS.");
        wide(2).due("left(0)", 200).does("stamp(0, 5, 5)").due("left(0)", 1).due("left(1)", 200)
            .does("note(4, 0, 0, 5, 1)", "note(1, 0, 1, 0, 1)").due("left(0)", 1).due("left(1)", 1);
    }

    private static void gap() {
        Run.sentence("the least, in any WAY, of DAY of b less DAY of a (perhaps below 0)");
        wide(2).due("gap(0, 1)", 801).due("gap(1, 0)", 801).does("stamp(0, 0, 0)", "stamp(1, 199, 199)")
            .due("gap(0, 1)", 1199).due("gap(1, 0)", 801).does("stamp(0, 199, 199)")
            .due("gap(0, 1)", 1000).due("gap(1, 0)", 1000).does("stamp(0, 198, 198)")
            .due("gap(0, 1)", 1001).due("gap(1, 0)", 999).due("gap(0, 0)", UNKNOWN).due("gap(0, 2)", UNKNOWN);
        wide(2).does("note(1, 0, 1, 0, 1)").due("gap(0, 1)", 1000).due("gap(1, 0)", 1000);
    }

    private static void ahead() {
        Run.sentence("a is AHEAD of b, if GAP is 1 or more.");
        new Run().does("letter(5, 6)", "letter(6, 7)").due("gap(0, 1)", 1000).due("ahead(0, 1)", 0).due("ahead(1, 0)", 0)
            .does("stamp(1, 7, 7)").due("gap(0, 1)", 1001).due("ahead(0, 1)", 2).due("ahead(1, 0)", 1)
            .due("ahead(0, 0)", 0).due("ahead(1, 1)", 0)
            .does("stamp(1, 3, 5)").due("gap(1, 0)", 1000).due("ahead(1, 1)", 0)
            .does("stamp(1, 3, 4)").due("gap(1, 0)", 1001).due("ahead(1, 1)", 1).due("ahead(0, 0)", 2);
        wide(2).does("note(0, 1, 0, 0, 1)").due("ahead(0, 1)", 0).does("note(0, 1, 0, 1, 1)").due("ahead(0, 1)", 2);
        new Run().does("letter(3, 3)").due("ahead(0, 0)", 0).due("ahead(0, 1)", 0);
    }

    private static void orders() {
        Run.sentence("How many ORDERS there are (1 without LETTERS).");
        new Run().due("orders()", 1).does("letter(0, 0)").due("orders()", 1).does("letter(0, 0)").due("orders()", 2)
            .does("unletter()", "unletter()").due("orders()", 1);
        Run.sentence("AN ORDER: a row of all LETTERS");
        wide(8).due("orders()", 40320).due("order(7)", 7).does("note(0, 6, 7, 0, 1)").due("orders()", 40320)
            .does("note(0, 6, 7, 1, 1)").due("orders()", 20160).due("order(6)", 7).due("order(7)", 6);
        Run.sentence("in which none comes ahead of one that is AHEAD of it");
        inARow(8).due("orders()", 1).does("stamp(7, 0, 199)").due("orders()", 8).does("stamp(7, 0, 78)")
            .due("orders()", 8).does("stamp(7, 60, 78)").due("orders()", 2).does("stamp(7, 69, 78)")
            .due("orders()", 2).does("stamp(7, 70, 78)").due("orders()", 1);
        Run all = wide(8);
        for (int a = 1; a < 8; a++) {
            all.does("note(0, " + a + ", 0, 1, 1)");
        }
        all.due("orders()", 5040).due("order(0)", 0);
    }

    private static void theFirstOrder() {
        Run.sentence("how many there are; the first as a row.");
        wide(8).row("order(", 0, 1, 2, 3, 4, 5, 6, 7);
        Run turned = new Run();
        for (int a = 0; a < 8; a++) {
            turned.does("letter(" + (199 - a) + ", " + (199 - a) + ")");
        }
        turned.row("order(", 7, 6, 5, 4, 3, 2, 1, 0).due("orders()", 1);
        wide(8).does("note(0, 0, 7, 1, 1)").row("order(", 1, 2, 3, 4, 5, 6, 7, 0);
    }

    private static void knot() {
        Run.sentence("(The empty set, if they do not CONTRADICT.)");
        new Run().due("knot(0)", 0).due("knot(1)", 0).does("letter(0, 9)").due("knot(0)", 0)
            .does("note(2, 0, 0, 9, 9)").due("knot(0)", 0).due("knot(1)", 0)
            .does("note(2, 0, 0, 10, 9)").due("knot(0)", 2).due("knot(1)", 9)
            .does("force(1, false)").due("knot(0)", 0).due("knot(1)", 0);
        Run.sentence("without which the others do not CONTRADICT (with the STAMPS)");
        Run all = inARow(1);
        for (int n = 0; n < 10; n++) {
            all.does("note(2, 0, 0, 10, 9)");
        }
        all.due("knot(0)", 1023).due("knot(1)", 90).does("force(0, false)", "force(9, false)")
            .due("knot(0)", 510).due("knot(1)", 72).does("stamp(0, 0, 10)").due("knot(0)", 0).due("knot(1)", 0);
        Run.sentence("KNOT: the set of NOTES in FORCE of the least WEIGHT together");
        wide(1).does("note(3, 0, 0, 5, 9)", "note(2, 0, 0, 6, 2)", "note(2, 0, 0, 6, 2)", "note(2, 0, 0, 6, 2)",
            "note(2, 0, 0, 6, 2)").due("knot(0)", 30).due("knot(1)", 8)
            .does("note(2, 0, 0, 6, 2)").due("knot(0)", 1).due("knot(1)", 9)
            .does("force(3, false)").due("knot(0)", 54).due("knot(1)", 8);
    }

    private static void knotOfSeveral() {
        Run.sentence("of several that of the fewest NOTES");
        wide(1).does("note(2, 0, 0, 6, 4)", "note(2, 0, 0, 6, 5)", "note(3, 0, 0, 5, 9)").due("knot(0)", 4)
            .due("knot(1)", 9);
        wide(1).does("note(2, 0, 0, 6, 1)", "note(2, 0, 0, 6, 1)", "note(2, 0, 0, 6, 1)", "note(3, 0, 0, 5, 1)",
            "note(3, 0, 0, 5, 2)").due("knot(0)", 24).due("knot(1)", 3);
        Run.sentence("then the least set");
        wide(1).does("note(2, 0, 0, 6, 3)", "note(3, 0, 0, 5, 3)").due("knot(0)", 1).due("knot(1)", 3);
        wide(1).does("note(2, 0, 0, 6, 1)", "note(3, 0, 0, 5, 2)", "note(3, 0, 0, 5, 1)", "note(2, 0, 0, 6, 2)")
            .due("knot(0)", 6).due("knot(1)", 3).does("unnote()", "note(4, 0, 0, 1, 5)").due("knot(0)", 1);
        wide(1).does("note(4, 0, 0, 1, 2)", "note(4, 0, 0, 2, 2)", "note(4, 0, 0, 3, 2)", "note(4, 0, 0, 4, 2)")
            .due("knot(0)", 7).due("knot(1)", 6);
        wide(1).does("note(2, 0, 0, 6, 1)", "note(3, 0, 0, 5, 3)", "note(3, 0, 0, 5, 1)", "note(2, 0, 0, 6, 3)")
            .due("knot(0)", 6).due("knot(1)", 4);
    }

    private static void core() {
        Run.sentence("from the last one on to the first, each is let go, if those that are left without it CONTRADICT yet");
        new Run().due("core()", STATE);
        inARow(1).does("note(2, 0, 0, 10, 1)").due("core()", 1).does("note(2, 0, 0, 10, 9)").due("core()", 1)
            .does("force(0, false)").due("core()", 2).does("force(1, false)").due("core()", STATE);
        wide(1).does("note(4, 0, 0, 1, 1)", "note(4, 0, 0, 2, 1)", "note(4, 0, 0, 3, 1)").due("core()", 3)
            .does("force(0, false)").due("core()", 6).does("force(0, true)", "force(1, false)").due("core()", 5);
        Run.sentence("what is left then: all, where none can be spared");
        Run chain = wide(8).does("note(2, 0, 0, 100, 1)");
        for (int a = 1; a < 8; a++) {
            chain.does("note(0, " + a + ", " + (a - 1) + ", 14, 1)");
        }
        chain.does("note(3, 7, 7, 198, 1)").due("core()", STATE).due("day(7, 0)", 198)
            .does("note(4, 0, 0, 3, 1)").due("core()", 1023).due("knot(0)", 1).due("knot(1)", 1)
            .does("unnote()", "note(4, 0, 0, 2, 1)").due("core()", STATE);
    }

    private static void worst() {
        Run.sentence("WORST: the greatest such sum, of all such DAYS.");
        wide(1).due("worst(0)", 0);
        wide(8).due("worst(0)", 1393).due("worst(7)", 1393);
        new Run().does("letter(5, 5)", "letter(6, 6)").due("worst(0)", 0).due("worst(1)", 0);
        Run.sentence("WORST by the first DAY alone, by the last one alone, by one between");
        new Run().does("letter(0, 3)", "letter(0, 9)", "note(0, 1, 0, 0, 1)").due("worst(0)", 9).due("worst(1)", 3);
        new Run().does("letter(0, 3)", "letter(0, 9)", "note(0, 0, 1, 0, 1)").due("worst(0)", 3).due("worst(1)", 3);
        new Run().does("letter(0, 4)", "letter(0, 4)", "note(1, 0, 1, 1, 1)").due("worst(0)", 2);
        new Run().does("letter(0, 4)", "letter(0, 4)", "note(1, 0, 1, 2, 1)").due("worst(0)", 4);
        Run.sentence("for a DAY that it has in some WAY");
        new Run().does("letter(0, 9)", "letter(0, 9)", "note(0, 1, 0, 0, 1)", "note(4, 0, 0, 3, 1)").due("worst(0)", 6)
            .does("stamp(0, 3, 9)").due("worst(0)", 6).does("stamp(0, 0, 2)").due("worst(0)", STATE);
    }

    private static void best() {
        Run.sentence("BEST: the LETTER of the least WORST; of several the least.");
        new Run().due("best()", NONE).does("letter(5, 5)").due("best()", 0).does("letter(5, 5)").due("best()", 0)
            .does("unletter()", "unletter()").due("best()", NONE);
        wide(8).due("best()", 0).does("stamp(0, 1, 199)").due("best()", 1).does("stamp(0, 0, 199)").due("best()", 0);
        inARow(8).due("best()", 0).does("stamp(7, 70, 80)").due("best()", 7).does("stamp(3, 30, 40)").due("best()", 3)
            .does("stamp(3, 30, 39)").due("best()", 7);
    }

    private static void bundlesAtFirst() {
        Run.sentence("BUNDLES 0 .. 2 are rows of LETTERS, none twice in one; empty at first.");
        wide(1).due("lies(0, 0)", NONE).due("lies(1, 0)", NONE).due("lies(2, 0)", NONE).due("ofLetter(0, 3)", 0)
            .due("tie(0, -1)", UNKNOWN).due("tie(0, 0)", 0).due("tie(0, 0)", STATE).due("many(3)", 1)
            .due("tie(0, 2)", 0).due("tie(0, 2)", STATE).due("tie(0, 3)", UNKNOWN).due("many(5)", 1).due("many(4)", 0)
            .due("ofLetter(0, 3)", 5).due("untie(0, 0)", 0).due("tie(0, 0)", 0);
        Run.sentence("which place it has (from 0 on)");
        Run full = wide(8);
        for (int bundle = 0; bundle < 3; bundle++) {
            for (int a = 0; a < 8; a++) {
                full.due("tie(" + a + ", " + bundle + ")", a);
            }
            full.row("lies(" + bundle + ", ", 0, 1, 2, 3, 4, 5, 6, 7).due("lies(" + bundle + ", 8)", OUTSIDE);
        }
        full.due("many(3)", 8).due("many(4)", 8).due("many(5)", 8).due("ofLetter(0, 3)", 7).due("ofLetter(7, 3)", 7);
    }

    private static void tied() {
        Run.sentence("(ahead of all, if there is none)");
        Run turned = wide(8);
        for (int a = 7; a >= 0; a--) {
            turned.due("tie(" + a + ", 1)", 0);
        }
        turned.row("lies(1, ", 0, 1, 2, 3, 4, 5, 6, 7);
        new Run().does("letter(5, 9)", "letter(4, 9)").due("tie(0, 0)", 0).due("tie(1, 0)", 0).due("lies(0, 1)", 0);
        Run.sentence("right behind the last one in it that has a lesser EARLIEST, or the same and a lesser number");
        new Run().does("letter(5, 9)", "letter(4, 9)", "letter(5, 9)", "letter(6, 9)", "letter(5, 5)")
            .due("tie(2, 0)", 0).due("tie(1, 0)", 0).due("tie(3, 0)", 2).due("tie(4, 0)", 2).due("tie(0, 0)", 1)
            .row("lies(0, ", 1, 0, 2, 4, 3, NONE);
    }

    private static void tiedByEarliest() {
        Run.sentence("by EARLIEST as it is then; those in it stay as they lie.");
        inARow(4).does("tie(0, 0)", "tie(1, 0)", "tie(2, 0)", "stamp(0, 100, 109)").due("tie(3, 0)", 3)
            .due("untie(3, 0)", 3).does("stamp(2, 100, 109)").due("tie(3, 0)", 2).row("lies(0, ", 0, 1, 3, 2, NONE)
            .due("untie(3, 0)", 3).does("stamp(1, 100, 109)").due("tie(3, 0)", 0).row("lies(0, ", 3, 0, 1, 2, NONE);
        inARow(2).does("tie(1, 0)", "note(2, 0, 0, 9, 1)").due("tie(0, 0)", 0)
            .due("untie(0, 0)", 1).does("stamp(0, 0, 19)", "note(2, 0, 0, 10, 1)").due("tie(0, 0)", 0)
            .due("untie(0, 0)", 1).does("note(2, 0, 0, 11, 1)").due("tie(0, 0)", 1)
            .due("untie(0, 0)", 1).does("force(2, false)").due("tie(0, 0)", 0);
    }

    private static void spread() {
        Run.sentence("out of it go all those of which another one in it (as it was) is AHEAD");
        new Run().due("spread(0)", 0).does("letter(0, 0)").due("spread(0)", 0).does("tie(0, 0)").due("spread(0)", 0)
            .due("lies(0, 0)", 0).does("letter(0, 1)", "tie(1, 0)").due("spread(0)", 0).due("many(3)", 2)
            .does("stamp(1, 1, 1)").due("spread(0)", 1).due("many(3)", 1).due("many(4)", 1).due("lies(1, 0)", 1)
            .due("spread(0)", 0).due("spread(1)", 0).due("lies(1, 0)", 1);
        Run.sentence("another one in it: one that is AHEAD, but in no BUNDLE or in another one, sends none out");
        inARow(3).does("tie(1, 0)", "tie(0, 1)").due("spread(0)", 0).due("many(3)", 1).does("tie(2, 0)")
            .due("spread(0)", 1).row("lies(0, ", 1, NONE).row("lies(1, ", 0, 2, NONE);
        Run.sentence("one after another, as they lay, they come into the next BUNDLE, behind all that is there");
        Run row = inARow(8);
        for (int a = 0; a < 8; a++) {
            row.does("tie(" + a + ", 0)");
        }
        row.due("spread(0)", 7).row("lies(0, ", 0, NONE).row("lies(1, ", 1, 2, 3, 4, 5, 6, 7, NONE);
        inARow(5).does("tie(0, 0)", "tie(1, 0)", "tie(2, 0)", "tie(3, 0)", "stamp(0, 60, 69)", "tie(4, 1)")
            .due("spread(0)", 3).row("lies(0, ", 1, NONE).row("lies(1, ", 4, 0, 2, 3, NONE);
    }

    private static void spreadRound() {
        Run.sentence("(behind 2 comes 0)");
        for (int bundle = 0; bundle < 3; bundle++) {
            int next = bundle == 2 ? 0 : bundle + 1;
            int third = bundle == 0 ? 2 : bundle - 1;
            inARow(2).does("tie(0, " + bundle + ")", "tie(1, " + bundle + ")").due("spread(" + bundle + ")", 1)
                .row("lies(" + bundle + ", ", 0, NONE).row("lies(" + next + ", ", 1, NONE)
                .due("lies(" + third + ", 0)", NONE).due("ofLetter(1, 3)", 1 << next);
        }
        inARow(4).does("tie(0, 0)", "tie(1, 0)", "tie(2, 0)", "tie(3, 0)").due("spread(0)", 3).due("spread(1)", 2)
            .due("spread(2)", 1).row("lies(0, ", 0, 3, NONE).row("lies(1, ", 1, NONE).row("lies(2, ", 2, NONE)
            .due("spread(0)", 1).row("lies(1, ", 1, 3, NONE).row("lies(0, ", 0, NONE);
    }

    private static void spreadIntoOneThatHasIt() {
        Run.sentence("but one that is in that already comes out of that, too (and is in none of both then)");
        Run both = inARow(8);
        for (int a = 0; a < 8; a++) {
            both.does("tie(" + a + ", 2)", "tie(" + a + ", 0)");
        }
        both.due("spread(2)", 7).row("lies(2, ", 0, NONE).row("lies(0, ", 0, NONE).due("ofLetter(0, 3)", 5)
            .due("ofLetter(1, 3)", 0).due("ofLetter(7, 3)", 0).due("many(4)", 0).due("spread(2)", 0);
        inARow(5).does("tie(0, 1)", "tie(1, 1)", "tie(2, 1)", "tie(3, 1)", "tie(2, 2)", "tie(4, 2)", "tie(0, 2)")
            .due("spread(1)", 3).row("lies(1, ", 0, NONE).row("lies(2, ", 0, 4, 1, 3, NONE).due("ofLetter(2, 3)", 0)
            .due("ofLetter(0, 3)", 6).due("ofLetter(1, 3)", 4);
        inARow(3).does("tie(0, 0)", "tie(2, 0)", "tie(2, 1)", "tie(2, 2)").due("spread(0)", 1).due("ofLetter(2, 3)", 4);
    }

    private static void stampAnswers() {
        Run.sentence("The STAMP of a LETTER becomes so: its FIRST as it was.");
        new Run().does("letter(199, 199)").due("stamp(0, 0, 0)", 199).due("stamp(0, 0, 0)", 0).due("stamp(0, 7, 9)", 0)
            .due("stamp(0, 7, 9)", 7).due("ofLetter(0, 0)", 7).due("ofLetter(0, 1)", 9);
        wide(8).due("stamp(7, 3, 4)", 0).due("ofLetter(7, 1)", 4).due("ofLetter(6, 1)", 199).due("stamp(8, 3, 4)", UNKNOWN);
    }

    private static void forceAnswers() {
        Run.sentence("A NOTE is in FORCE (true), or not: 1; 0: it was so.");
        Run run = wide(1);
        for (int n = 0; n < 10; n++) {
            run.does("note(2, 0, 0, " + n + ", 1)");
        }
        run.due("force(9, true)", 0).due("force(9, false)", 1).due("force(9, false)", 0).due("day(0, 0)", 8)
            .due("force(0, false)", 1).due("many(2)", 8).due("ofNote(9, 5)", 0).due("ofNote(8, 5)", 1)
            .due("force(9, true)", 1).due("day(0, 0)", 9).due("ofNote(0, 5)", 0).due("force(10, true)", UNKNOWN);
    }

    private static void unnoteAnswers() {
        Run.sentence("The last NOTE is no more: how many are left. STATE: there is none.");
        Run run = wide(1);
        for (int n = 0; n < 10; n++) {
            run.does("note(2, 0, 0, " + n + ", 1)");
        }
        for (int n = 9; n >= 0; n--) {
            run.due("unnote()", n).due("many(1)", n).due("day(0, 0)", Math.max(0, n - 1));
        }
        run.due("unnote()", STATE).due("many(1)", 0).due("note(2, 0, 0, 7, 1)", 0);
    }

    private static void unletterAnswers() {
        Run.sentence("The last LETTER is no more: how many are left.");
        Run run = wide(8);
        for (int a = 7; a >= 0; a--) {
            run.due("unletter()", a).due("many(0)", a);
        }
        run.due("unletter()", STATE).due("letter(0, 1)", 0);
        Run.sentence("(it is in no BUNDLE then)");
        inARow(3).does("tie(0, 0)", "tie(1, 0)", "tie(2, 0)", "tie(2, 1)", "stamp(2, 0, 0)", "stamp(0, 5, 9)",
            "tie(2, 2)", "tie(1, 2)", "tie(0, 2)").row("lies(2, ", 2, 0, 1, NONE).due("unletter()", 2)
            .row("lies(0, ", 0, 1, NONE).row("lies(1, ", NONE).row("lies(2, ", 0, 1, NONE);
        Run.sentence("a NOTE (in FORCE or not) is about it");
        for (String note : new String[] {"note(0, 0, 7, 1, 1)", "note(0, 7, 0, 1, 1)", "note(1, 0, 7, 1, 1)",
            "note(1, 7, 0, 1, 1)", "note(2, 7, 7, 1, 1)", "note(3, 7, 7, 1, 1)", "note(4, 7, 7, 1, 1)"}) {
            wide(8).does(note).due("unletter()", STATE).does("force(0, false)").due("unletter()", STATE)
                .does("unnote()").due("unletter()", 7);
        }
        wide(8).does("note(0, 0, 6, 1, 1)").due("unletter()", 7).due("unletter()", STATE);
    }

    private static void ofLetter() {
        Run.sentence("0 FIRST, 1 LAST, 2 in how many NOTES in FORCE it is, 3 in which BUNDLES, as a set.");
        Run run = wide(8).due("ofLetter(0, -1)", OUTSIDE).row("ofLetter(0, ", 0, 199, 0, 0, OUTSIDE);
        for (int n = 0; n < 5; n++) {
            run.does("note(0, 0, 7, 0, 1)", "note(1, 7, 0, 9, 1)");
        }
        run.does("tie(0, 0)", "tie(0, 1)", "tie(0, 2)").row("ofLetter(0, ", 0, 199, 10, 7, OUTSIDE)
            .row("ofLetter(7, ", 0, 199, 10, 0, OUTSIDE).row("ofLetter(3, ", 0, 199, 0, 0, OUTSIDE);
        for (int n = 0; n < 10; n++) {
            run.due("force(" + n + ", false)", 1).due("ofLetter(0, 2)", 9 - n);
        }
    }

    private static void ofNote() {
        Run.sentence("0 SORT, 1 a, 2 b, 3 d, 4 WEIGHT, 5 whether it is in FORCE (1, 0)");
        wide(8).does("note(0, 7, 0, 99, 9)", "note(4, 0, 0, 0, 1)").due("ofNote(0, -1)", OUTSIDE)
            .row("ofNote(0, ", 0, 7, 0, 99, 9, 1, OUTSIDE).row("ofNote(1, ", 4, 0, 0, 0, 1, 1, OUTSIDE)
            .does("force(1, false)").row("ofNote(1, ", 4, 0, 0, 0, 1, 0, OUTSIDE).due("ofNote(2, 0)", UNKNOWN);
    }

    private static void orderPlaces() {
        Run.sentence("The k-th LETTER of the first ORDER (from 0 on); NONE: there are not so many. OUTSIDE: k (0 .. 7)");
        for (int letters = 0; letters <= 8; letters++) {
            Run run = wide(letters).due("order(-1)", OUTSIDE);
            for (int k = 0; k < 8; k++) {
                run.due("order(" + k + ")", k < letters ? k : NONE);
            }
            run.due("order(8)", OUTSIDE);
        }
    }

    private static void untie() {
        Run.sentence("A LETTER goes out of a BUNDLE: how many are left in it.");
        Run run = wide(8);
        for (int a = 0; a < 8; a++) {
            run.does("tie(" + a + ", 2)");
        }
        run.due("untie(0, 2)", 7).due("lies(2, 0)", 1).due("untie(7, 2)", 6).due("lies(2, 5)", 6).due("lies(2, 6)", NONE)
            .due("untie(3, 2)", 5).row("lies(2, ", 1, 2, 4, 5, 6, NONE).due("untie(3, 2)", STATE)
            .due("untie(1, 2)", 4).due("untie(2, 2)", 3).due("untie(4, 2)", 2).due("untie(5, 2)", 1)
            .due("untie(6, 2)", 0).due("untie(6, 2)", STATE).due("lies(2, 0)", NONE).due("many(5)", 0)
            .due("tie(6, 2)", 0).due("untie(6, 0)", STATE).due("untie(6, -1)", UNKNOWN).due("untie(6, 3)", UNKNOWN);
    }

    private static void lies() {
        Run.sentence("The LETTER in a place of a BUNDLE; NONE: there are not so many. UNKNOWN: BUNDLE; OUTSIDE: place (0 .. 7).");
        Run run = wide(8);
        for (int a = 0; a < 8; a++) {
            run.due("lies(1, " + a + ")", NONE).does("tie(" + a + ", 1)").due("lies(1, " + a + ")", a);
        }
        run.due("lies(1, -1)", OUTSIDE).due("lies(1, 8)", OUTSIDE).due("lies(-1, 0)", UNKNOWN).due("lies(3, 0)", UNKNOWN)
            .due("lies(0, 7)", NONE).due("lies(2, 7)", NONE).due("lies(0, 8)", OUTSIDE);
    }

    private static void many() {
        Run.sentence("How many: 0 LETTERS, 1 NOTES, 2 NOTES in FORCE, 3 to 5 LETTERS in BUNDLES 0 to 2, 6 WEIGHT of all NOTES in FORCE.");
        Run run = wide(8).due("many(-1)", OUTSIDE).row("many(", 8, 0, 0, 0, 0, 0, 0, OUTSIDE);
        for (int n = 0; n < 10; n++) {
            run.does("note(3, 0, 0, 0, 9)");
        }
        run.does("tie(0, 0)", "tie(1, 0)", "tie(2, 0)", "tie(0, 1)", "tie(1, 1)", "tie(7, 2)")
            .row("many(", 8, 10, 10, 3, 2, 1, 90, OUTSIDE).does("force(9, false)")
            .row("many(", 8, 10, 9, 3, 2, 1, 81, OUTSIDE);
        for (int n = 0; n < 9; n++) {
            run.does("force(" + n + ", false)");
        }
        run.row("many(", 8, 10, 0, 3, 2, 1, 0, OUTSIDE);
    }
}
