import java.util.ArrayList;
import java.util.Arrays;
import java.util.List;

/**
 * "A call that is refused answers one of BAD, NO, FULL, or a FINDING, of several the one that stands first with it,
 * and changes nothing (but the tape and the numbers that wait, where told)." Each row is a call that is refused, with
 * its answer; behind it the house is as it was, whatever it is asked. (Ranges of arguments: RangesTest.)
 */
public final class RefusedTest {
    private static final Due DUE = new Due("RefusedTest");
    private static final List<String> RICH_MADE = Houses.calls(Houses.RICH);
    private static final Unchanged RICH = new Unchanged(RICH_MADE);
    private static final List<String> FULL_MADE = Houses.calls(Houses.FULL);
    private static final Unchanged FULL = new Unchanged(FULL_MADE);
    private static final Unchanged EMPTY = new Unchanged(Houses.EMPTY);
    private static final Unchanged LAST = new Unchanged(Houses.calls(Houses.LAST_MINUTE));

    public static void main(String[] args) {
        asTold();
        members();
        pairs();
        minutes();
        papers();
        hung();
        tellsOfPapers();
        puts();
        rules();
        changes();
        tape();
        texts();
        incomes();
        books();
        copies();
        carries();
        checks();
        DUE.end();
    }

    private static void sentence(int promise, String words) {
        DUE.sentence("Promise " + promise, words);
    }

    private static void refused(Unchanged house, String... rows) {
        for (String row : rows) {
            house.by(DUE, row);
        }
    }

    private static List<String> plus(List<String> made, String... more) {
        List<String> all = new ArrayList<>(made);
        all.addAll(Arrays.asList(more));
        return all;
    }

    /** The houses are as Houses tells. */
    private static void asTold() {
        DUE.sentence("Houses", "what the calls that make a house answer");
        Calls.due(DUE, new BudgetHouse(), Houses.RICH.toArray(new String[0]));
        Calls.due(DUE, new BudgetHouse(), Houses.FULL.toArray(new String[0]));
        Calls.due(DUE, new BudgetHouse(), Houses.LAST_MINUTE.toArray(new String[0]));
        int[] states = {0, 0, 0, 0, 0, 0, 0, 0, 0, 1, 1, 1, 0, 2, 3, 4, 1, 1, 0, 2, 0};
        BudgetHouse x = Calls.house(RICH_MADE);
        for (int p = 0; p < states.length; p++) {
            DUE.is("told(" + p + ", 3)", x.told(p, 3), states[p]);
        }
        Calls.due(DUE, x, "count(0) = 6", "count(1) = 5", "count(2) = 1", "count(3) = 21", "count(9) = 5",
            "count(10) = 2", "count(11) = 2", "count(12) = 2", "count(13) = 3", "count(14) = 2", "count(15) = 3",
            "count(16) = 8", "count(17) = 7");
        Calls.due(DUE, Calls.house(FULL_MADE), "count(0) = 20", "count(2) = 0", "count(3) = 40", "count(9) = 12",
            "count(10) = 30", "count(11) = 8", "count(12) = 6", "count(13) = 8", "count(14) = 60", "count(15) = 96");
    }

    private static void members() {
        sentence(2, "BAD; FULL.");
        refused(FULL, "member(0, 0) = FULL", "member(8, 127) = FULL", "member(9, 0) = BAD", "member(0, 128) = BAD",
            "member(-1, 0) = BAD", "member(0, -1) = BAD");
        refused(RICH, "member(9, 128) = BAD", "member(NONE, 0) = BAD", "member(0, NONE) = BAD");
        sentence(3, "BAD.");
        refused(EMPTY, "is(0, 0) = BAD", "is(-1, 0) = BAD", "is(0, 6) = BAD");
        refused(FULL, "is(20, 0) = BAD");
        refused(RICH, "is(6, 6) = BAD", "is(NONE, 0) = BAD");
        sentence(4, "a MINUTE (later than the one that is open, 9999 at most; NONE) .. BAD.");
        refused(EMPTY, "train(0, 5) = BAD", "train(0, NONE) = BAD");
        refused(RICH, "train(1, 8) = BAD", "train(1, 7) = BAD", "train(1, 0) = BAD", "train(1, -1) = BAD",
            "train(6, NONE) = BAD", "train(-1, NONE) = BAD", "train(1, BAD) = BAD", "train(1, 10000) = BAD");
        refused(LAST, "train(0, 9999) = BAD", "train(0, 10000) = BAD", "train(2, 9998) = BAD");
        sentence(5, "BAD.");
        refused(EMPTY, "go(0, 1) = BAD", "go(0, 0) = BAD");
        refused(RICH, "go(5, 2) = BAD", "go(1, -1) = BAD", "go(6, 0) = BAD", "go(1, NONE) = BAD");
    }

    private static void pairs() {
        sentence(6, "BAD: also if they are one; NO: one is in a PAIR that holds; FULL.");
        refused(EMPTY, "pair(0, 1, 5) = BAD", "pair(0, 0, 5) = BAD");
        refused(RICH, "pair(0, 0, 50) = BAD", "pair(3, 3, 50) = BAD", "pair(0, 6, 50) = BAD", "pair(6, 0, 50) = BAD",
            "pair(3, 0, 50) = NO", "pair(0, 3, 50) = NO", "pair(4, 0, 50) = NO", "pair(0, 4, 50) = NO",
            "pair(3, 4, 50) = NO", "pair(4, 3, 9999) = NO", "pair(3, 0, 8) = BAD", "pair(3, 6, 50) = BAD",
            "pair(3, 0, 10000) = BAD", "pair(0, 1, 8) = BAD", "pair(0, 1, NONE) = BAD");
        refused(FULL, "pair(0, 1, 9) = FULL", "pair(0, 2, 9999) = FULL", "pair(0, 0, 9) = BAD", "pair(0, 20, 9) = BAD",
            "pair(0, 1, 0) = BAD");
        List<String> tenth = new ArrayList<>();
        for (int i = 0; i < 4; i++) {
            tenth.add("member(0, 1)");
        }
        for (int p = 0; p < 10; p++) {
            tenth.add("pair(0, 1, 9)");
            tenth.add("breaks(" + (p < 9 ? p : 0) + ")");
        }
        refused(new Unchanged(tenth), "pair(0, 2, 9) = NO", "pair(2, 1, 9) = NO", "pair(2, 3, 9) = FULL",
            "pair(0, 0, 9) = BAD");
        refused(LAST, "pair(0, 1, 9999) = BAD", "pair(0, 1, 10000) = BAD");
        sentence(7, "BAD; NO: it does not hold.");
        refused(EMPTY, "breaks(0) = BAD");
        refused(RICH, "breaks(1) = NO", "breaks(2) = BAD", "breaks(-1) = BAD", "breaks(NONE) = BAD");
        refused(LAST, "breaks(0) = NO", "breaks(1) = BAD");
    }

    private static void minutes() {
        sentence(8, "BAD.");
        refused(RICH, "clock(2) = BAD", "clock(-1) = BAD", "clock(NONE) = BAD");
        sentence(9, "BAD; FULL: it would be above 9999.");
        refused(RICH, "run(0) = BAD", "run(241) = BAD", "run(-1) = BAD", "run(MAX) = BAD", "run(MIN) = BAD");
        refused(LAST, "run(1) = FULL", "run(240) = FULL", "run(0) = BAD", "run(241) = BAD", "run(MAX) = BAD");
        List<String> made = plus(Arrays.asList("member(0, 1)", "train(0, 9999)", "paper(0, 0, 0)"));
        for (String row : Houses.minutes(9980)) {
            made.add(Calls.callOf(row));
        }
        made.add("print(0, 0, 19)");
        refused(new Unchanged(made), "run(20) = FULL", "run(21) = FULL", "run(240) = FULL", "run(241) = BAD");
    }

    private static void papers() {
        sentence(10, "One more PAPER of KIND 0, 1, 2, 4 .. 7: .. BAD; FULL.");
        refused(EMPTY, "paper(2, 0, 1) = BAD", "paper(4, 0, 1) = BAD", "paper(5, 0, 1) = BAD", "paper(6, 12, 0) = BAD",
            "paper(7, 0, 0) = BAD", "paper(3, 0, 0) = BAD");
        refused(RICH, "paper(-1, 0, 0) = BAD", "paper(3, 1, 5) = BAD", "paper(8, 1, 0) = BAD", "paper(0, 1, 0) = BAD",
            "paper(0, 0, 1) = BAD", "paper(1, 4, 5) = BAD", "paper(1, 9, 5) = BAD", "paper(1, 80, 5) = BAD",
            "paper(1, -10, 5) = BAD", "paper(1, 12, 10000) = BAD", "paper(1, 12, -1) = BAD",
            "paper(2, 1, 10000) = BAD", "paper(2, 1, -10000) = BAD", "paper(7, 1, 1) = BAD", "paper(7, 1, -1) = BAD");
        // What is no LINE: a PAPER, a CHANGE, a HUNG one, a RIDER, a TONGUE, a DEAL, a RULING, none.
        for (int a : new int[] {0, 2, 3, 5, 6, 7, 8, 21, -1, 40}) {
            refused(RICH, "paper(2, " + a + ", 5) = BAD", "paper(4, " + a + ", 5) = BAD",
                "paper(5, " + a + ", 5) = BAD", "paper(7, " + a + ", 0) = BAD");
        }
        // What is of none of KINDS 1 .. 4: a PAPER, a TONGUE, a DEAL, a RULING, none.
        for (int b : new int[] {0, 6, 7, 8, 21, -1, 40}) {
            refused(RICH, "paper(6, 12, " + b + ") = BAD");
        }
        for (int party = 0; party < 10; party++) {
            refused(RICH, "paper(6, " + 11 * party + ", 1) = BAD", "paper(6, " + (10 * party + 9) + ", 1) = BAD",
                "paper(6, " + (90 + party) + ", 1) = BAD");
        }
        refused(RICH, "paper(6, -12, 1) = BAD", "paper(6, -1, 1) = BAD", "paper(6, 100, 1) = BAD");
        refused(FULL, "paper(0, 0, 0) = FULL", "paper(1, 0, 0) = FULL", "paper(2, 0, 0) = FULL",
            "paper(4, 0, 0) = FULL", "paper(5, 0, 0) = FULL", "paper(6, 12, 0) = FULL", "paper(7, 0, 0) = FULL",
            "paper(0, 0, 1) = BAD", "paper(1, 4, 0) = BAD", "paper(1, 0, -1) = BAD", "paper(2, 9, 0) = BAD",
            "paper(3, 0, 0) = BAD", "paper(4, 9, 0) = BAD", "paper(5, 0, 70000) = BAD", "paper(6, 11, 0) = BAD",
            "paper(7, 0, 1) = BAD", "paper(8, 0, 0) = BAD");
    }

    private static void hung() {
        sentence(11, "BAD: line, more, on, mode; FULL.");
        refused(EMPTY, "hung(0, 0, 0, 0) = BAD");
        // What is no LINE; what is no CHANGE.
        for (int line : new int[] {0, 2, 3, 5, 6, 7, 8, 21, -1}) {
            refused(RICH, "hung(" + line + ", 5, 2, 0) = BAD");
        }
        for (int on : new int[] {0, 1, 5, 6, 7, 8, 21, 22, -1, 40}) {
            refused(RICH, "hung(1, 5, " + on + ", 0) = BAD", "hung(1, 5, " + on + ", 1) = BAD");
        }
        refused(RICH, "hung(1, 10000, 2, 0) = BAD", "hung(1, -10000, 2, 0) = BAD", "hung(1, 5, 2, 2) = BAD",
            "hung(1, 5, 2, -1) = BAD", "hung(1, 5, 2, NONE) = BAD", "hung(1, 5, NONE, 0) = BAD",
            "hung(NONE, 5, 2, 0) = BAD", "hung(1, NONE, 2, 0) = BAD");
        refused(FULL, "hung(0, 1, 9, 0) = FULL", "hung(8, -9999, 39, 1) = FULL", "hung(9, 1, 9, 0) = BAD",
            "hung(0, 10000, 9, 0) = BAD", "hung(0, 1, 0, 0) = BAD", "hung(0, 1, 9, 2) = BAD",
            "hung(0, 1, 40, 0) = BAD");
    }

    private static void tellsOfPapers() {
        sentence(12, "BAD.");
        refused(EMPTY, "told(0, 0) = BAD");
        refused(FULL, "told(40, 0) = BAD", "told(39, 10) = BAD");
        sentence(13, "BAD: paper, kind; KIND: it is not of that KIND, nor of one under it.");
        refused(EMPTY, "as(0, 0) = BAD");
        refused(RICH, "as(1, 2) = KIND", "as(1, 3) = KIND", "as(2, 3) = KIND", "as(1, 4) = KIND", "as(5, 1) = KIND",
            "as(0, 1) = KIND", "as(0, 7) = KIND", "as(8, 6) = KIND", "as(3, 4) = KIND", "as(1, 8) = BAD",
            "as(0, -1) = BAD", "as(21, 0) = BAD", "as(21, 8) = BAD");
        sentence(14, "BAD.");
        refused(EMPTY, "stance(0, 0, 0) = BAD");
        refused(RICH, "stance(9, 1, 5) = BAD", "stance(-1, 1, 5) = BAD", "stance(0, 21, 5) = BAD",
            "stance(1, 1, 10) = BAD", "stance(1, 1, -10) = BAD", "stance(1, 1, NONE) = BAD");
        sentence(15, "BAD; FULL (with 0, too).");
        refused(EMPTY, "print(0, 0, 0) = BAD");
        refused(RICH, "print(21, 0, 0) = BAD", "print(1, 7, 0) = BAD", "print(1, -1, 0) = BAD",
            "print(1, 2, 100) = BAD", "print(1, 2, -1) = BAD", "print(1, NONE, 0) = BAD", "print(1, 2, NONE) = BAD");
        refused(FULL, "print(0, 0, 5) = FULL", "print(0, 0, 0) = FULL", "print(39, 6, 99) = FULL",
            "print(40, 0, 0) = BAD", "print(0, 7, 0) = BAD", "print(0, 0, 100) = BAD", "print(0, 0, -1) = BAD");
        sentence(16, "BAD.");
        refused(EMPTY, "read(0, 0) = BAD");
        refused(RICH, "read(6, 1) = BAD", "read(1, 21) = BAD", "read(-1, 1) = BAD", "read(1, -1) = BAD");
        sentence(17, "BAD; KIND: none of KINDS 1 .. 4.");
        refused(EMPTY, "would(0, 0) = BAD");
        refused(RICH, "would(0, 0) = KIND", "would(6, 3) = KIND", "would(7, 0) = KIND", "would(8, 2) = KIND",
            "would(16, 0) = KIND", "would(0, 4) = BAD", "would(6, -1) = BAD", "would(21, 0) = BAD",
            "would(21, 4) = BAD", "would(1, 4) = BAD");
        sentence(23, "BAD: i below 0; NONE.");
        refused(EMPTY, "row(0) = NONE", "row(-1) = BAD");
        refused(RICH, "row(-1) = BAD", "row(MIN) = BAD", "row(5) = NONE", "row(MAX) = NONE");
        refused(FULL, "row(31) = NONE", "row(32) = NONE");
        sentence(24, "BAD; KIND: no LINE (CHANGES are none).");
        refused(EMPTY, "line(0, 0) = BAD");
        for (int p : new int[] {0, 2, 3, 5, 6, 7, 8, 11}) {
            refused(RICH, "line(" + p + ", 0) = KIND", "line(" + p + ", 3) = KIND", "line(" + p + ", 4) = BAD",
                "line(" + p + ", -1) = BAD");
        }
        refused(RICH, "line(21, 0) = BAD", "line(1, 4) = BAD", "line(21, 4) = BAD");
    }

    private static void puts() {
        sentence(18, "BAD; KIND: none of KINDS 1 .. 3; NO: as told, or it is not OPEN.");
        refused(EMPTY, "put(0) = BAD", "put(-1) = BAD");
        // A PAPER, a RIDER, a TONGUE, a DEAL, a RULING; not OPEN ones, too.
        for (int p : new int[] {0, 5, 6, 7, 8, 10, 16, 17}) {
            refused(RICH, "put(" + p + ") = KIND");
        }
        refused(RICH, "put(21) = BAD");
        sentence(18, "NO: .. it is not OPEN");
        refused(RICH, "put(9) = NO", "put(11) = NO", "put(13) = NO", "put(14) = NO", "put(15) = NO", "put(19) = NO");
        DUE.sentence("Terms 2", "A CHANGE cannot be put (NO), unless its LINE is OPEN");
        List<String> late = plus(RICH_MADE, "paper(2, 13, 1)", "paper(2, 15, 1)", "paper(2, 9, 1)", "hung(9, 1, 2, 0)",
            "hung(9, 1, 11, 1)");
        refused(new Unchanged(late), "put(18) = NO", "put(21) = NO", "put(22) = NO", "put(23) = NO", "put(24) = NO",
            "put(25) = NO");
        DUE.sentence("Terms 2", "and (MODE 1) what it hangs ON PASSED");
        refused(RICH, "put(4) = NO", "put(20) = NO");
        List<String> onEach = plus(RICH_MADE, "hung(1, 1, 14, 1)", "hung(1, 1, 19, 1)", "hung(1, 1, 3, 1)",
            "hung(1, 1, 2, 1)");
        refused(new Unchanged(onEach), "put(21) = NO", "put(22) = NO", "put(23) = NO", "put(24) = NO");
        DUE.sentence("Terms 2", "nothing can, unless THE RULE of may lets it");
        Unchanged none = new Unchanged(plus(RICH_MADE, "'may 0' from 0", "tell(1)"));
        refused(none, "put(1) = NO", "put(2) = NO", "put(3) = NO", "put(9) = NO", "put(0) = KIND", "put(5) = KIND",
            "put(21) = BAD");
    }

    private static void rules() {
        sentence(19, "BAD; KIND: it is none; NO: it is not OPEN, or its LINE did not PASS.");
        refused(EMPTY, "rule(0) = BAD");
        for (int p : new int[] {0, 1, 2, 3, 5, 6, 7, 9, 10, 11, 15}) {
            refused(RICH, "rule(" + p + ") = KIND");
        }
        refused(RICH, "rule(21) = BAD", "rule(8) = NO", "rule(16) = NO");
        List<String> made = plus(RICH_MADE, "paper(7, 13, 0)", "paper(7, 15, 0)", "paper(7, 9, 0)", "rule(23)");
        refused(new Unchanged(made), "rule(21) = NO", "rule(22) = NO", "rule(23) = NO", "rule(12) = NO");
        sentence(20, "BAD; KIND: no LINE (CHANGES are none); NO: it is not VOID.");
        refused(EMPTY, "mend(0) = BAD");
        for (int p : new int[] {0, 2, 3, 5, 6, 7, 8, 10, 11, 14, 16}) {
            refused(RICH, "mend(" + p + ") = KIND");
        }
        refused(RICH, "mend(1) = NO", "mend(9) = NO", "mend(13) = NO", "mend(21) = BAD");
        // A CHANGE and a RIDER that are VOID.
        refused(new Unchanged(made), "mend(11) = KIND", "mend(10) = KIND");
    }

    private static void changes() {
        sentence(21, "BAD; KIND: it is none; NO: it is not OPEN.");
        sentence(22, "BAD; KIND; NO as of falls().");
        refused(EMPTY, "falls(0) = BAD", "never(0) = BAD");
        for (int p : new int[] {0, 1, 5, 6, 7, 8, 9, 10, 13, 15, 16, 17}) {
            refused(RICH, "falls(" + p + ") = KIND", "never(" + p + ") = KIND");
        }
        for (int p : new int[] {11, 14, 19}) {
            refused(RICH, "falls(" + p + ") = NO", "never(" + p + ") = NO");
        }
        refused(RICH, "falls(21) = BAD", "never(21) = BAD", "falls(-1) = BAD", "never(-1) = BAD");
        refused(new Unchanged(plus(RICH_MADE, "rule(12)")), "falls(11) = NO", "never(11) = NO");
    }

    private static void tape() {
        sentence(25, "FULL: it would have more than 96.");
        refused(FULL, "feed(0, 0, 0) = FULL", "feed(MAX, MIN, -1) = FULL");
        for (int n : new int[] {85, 86, 95}) {
            refused(new Unchanged(plus(FULL_MADE, "trim(" + n + ")")), "feed(0, 0, 0) = FULL");
        }
        sentence(26, "BAD.");
        refused(EMPTY, "trim(1) = BAD", "trim(-1) = BAD");
        refused(RICH, "trim(4) = BAD", "trim(-1) = BAD");
        refused(FULL, "trim(97) = BAD", "trim(MAX) = BAD", "trim(MIN) = BAD");
        sentence(28, "BAD.");
        refused(EMPTY, "of(0, 0) = BAD");
        refused(RICH, "of(5, 0) = BAD", "of(0, 3) = BAD");
        refused(FULL, "of(12, 0) = BAD", "of(11, 3) = BAD");
        sentence(29, "BAD; NONE.");
        refused(EMPTY, "why(0) = NONE", "why(3) = NONE", "why(4) = BAD", "why(-1) = BAD");
    }

    /** The tape is used up, whatever is answered; nothing else changes. */
    private static void texts() {
        sentence(27, "BAD (asked first; THE TAPE is used up, too); -100 less the place of its FAULT; FULL.");
        Unchanged rich = new Unchanged(Houses.calls(Houses.RICH_NO_TAPE));
        Unchanged full = new Unchanged(plus(FULL_MADE, "trim(0)"));
        for (String hour : new String[] {"-1", "167", "168", "MAX", "MIN", "NONE"}) {
            rich.by(DUE, RICH_MADE, "'may 1' from " + hour + " = BAD");
            rich.by(DUE, RICH_MADE, "'' from " + hour + " = BAD");
            rich.by(DUE, RICH_MADE, "'may' from " + hour + " = BAD");
            rich.by(DUE, RICH_MADE, "text(" + hour + ") = BAD");
            full.by(DUE, FULL_MADE, "'may 1' from " + hour + " = BAD");
            full.by(DUE, FULL_MADE, "'may' from " + hour + " = BAD");
        }
        rich.by(DUE, RICH_MADE, "'may' from 0 = -103");
        rich.by(DUE, RICH_MADE, "text(0) = -103");
        rich.by(DUE, RICH_MADE, "'may 1 1' from 166 = -106");
        rich.by(DUE, RICH_MADE, "'' from 0 = -100");
        full.by(DUE, FULL_MADE, "'may 1' from 0 = FULL");
        full.by(DUE, FULL_MADE, "'pass y' from 166 = FULL");
        full.by(DUE, FULL_MADE, "'may 1)' from 0 = -105");
        full.by(DUE, FULL_MADE, "text(0) = -112");
        EMPTY.by(DUE, "text(0) = -100");
        EMPTY.by(DUE, "text(167) = BAD");
    }

    private static void incomes() {
        sentence(30, "BAD; FULL.");
        refused(RICH, "income(5, 4) = BAD", "income(-1, 4) = BAD", "income(0, 10000) = BAD",
            "income(10000, 10000) = BAD", "income(9999, 9998) = BAD", "income(0, -1) = BAD", "income(NONE, 5) = BAD",
            "income(0, NONE) = BAD");
        refused(FULL, "income(0, 0) = FULL", "income(9999, 9999) = FULL", "income(5, 4) = BAD", "income(-1, 4) = BAD",
            "income(0, 10000) = BAD");
        sentence(31, "BAD.");
        refused(EMPTY, "balance(-1) = BAD", "balance(14) = BAD");
        sentence(32, "NONE.");
        refused(EMPTY, "first() = NONE");
        sentence(37, "BAD: year below 0, what; NONE (1, 2): none can be READ.");
        refused(EMPTY, "span(-1, 0) = BAD", "span(0, 3) = BAD", "span(0, 1) = NONE", "span(0, 2) = NONE");
        refused(RICH, "span(-1, 1) = BAD", "span(9, 3) = BAD", "span(9, 1) = NONE", "span(MAX, 2) = NONE");
    }

    private static void books() {
        sentence(33, "BAD: office, sort, n above 20; SIZE.");
        refused(RICH, "book(0, 0, -1) = SIZE", "book(0, 1, MIN) = SIZE", "book(1, 0, -1) = SIZE",
            "book(0, 0, 21) = BAD", "book(0, 1, MAX) = BAD", "book(8, 0, -1) = BAD", "book(-1, 1, -1) = BAD",
            "book(0, 2, -1) = BAD", "book(0, -2, -1) = BAD", "book(8, -1, 0) = BAD", "book(-1, -1, 0) = BAD",
            "book(0, 2, 3) = BAD", "book(0, NONE, 3) = BAD", "book(NONE, 0, 3) = BAD", "book(0, 0, NONE) = SIZE");
        sentence(34, "BAD: office; NOTHING; INDEX; KIND: NONE in a row of ints; BAD: v of floats.");
        refused(EMPTY, "note(0, 0, 0) = NOTHING", "note(0, -1, NONE) = NOTHING", "note(7, 99, 100001) = NOTHING",
            "note(8, 0, 0) = BAD", "note(-1, 0, 0) = BAD");
        refused(RICH, "note(8, 99, NONE) = BAD", "note(0, 3, 1) = INDEX", "note(0, -1, NONE) = INDEX",
            "note(0, 3, NONE) = INDEX", "note(1, 4, 100001) = INDEX", "note(1, -1, NONE) = INDEX",
            "note(2, 0, 1) = INDEX", "note(0, 0, NONE) = KIND", "note(0, 2, NONE) = KIND", "note(1, 0, 100001) = BAD",
            "note(1, 3, -100001) = BAD", "note(1, 0, MAX) = BAD", "note(1, 0, MIN) = BAD", "note(1, 0, BAD) = BAD",
            "note(3, 0, 1) = NOTHING");
        sentence(35, "BAD: office; NOTHING; INDEX; KIND: NO NUMBER from the first YEAR on.");
        refused(EMPTY, "looks(0, 0) = NOTHING", "looks(7, -1) = NOTHING", "looks(8, 0) = BAD", "looks(-1, -1) = BAD");
        refused(RICH, "looks(0, 3) = INDEX", "looks(0, -1) = INDEX", "looks(2, 0) = INDEX", "looks(1, 4) = INDEX",
            "looks(1, 0) = KIND", "looks(3, 0) = NOTHING", "looks(8, 99) = BAD");
    }

    private static void copies() {
        sentence(36, "BAD; NOTHING; KIND: they are not of one sort; INDEX (many below 0, too; at the end with many 0: "
            + "not).");
        refused(EMPTY, "copy(0, 0, 0, 0, 0) = NOTHING", "copy(8, 0, 0, 0, 0) = BAD", "copy(0, 0, 8, 0, 0) = BAD",
            "copy(-1, 0, 0, 0, 0) = BAD", "copy(0, 0, -1, 0, 0) = BAD", "copy(7, -1, 7, -1, -1) = NOTHING");
        refused(RICH, "copy(3, 0, 8, 0, 1) = BAD", "copy(8, 0, 3, 0, 1) = BAD", "copy(3, 0, 0, 0, 1) = NOTHING",
            "copy(0, 0, 3, 0, 1) = NOTHING", "copy(3, 9, 1, 9, 9) = NOTHING", "copy(3, 0, 4, 0, 0) = NOTHING",
            "copy(0, 0, 1, 0, 1) = KIND", "copy(1, 0, 0, 0, 1) = KIND", "copy(0, 9, 1, 9, -1) = KIND",
            "copy(0, 0, 1, 0, 0) = KIND", "copy(0, 0, 0, 1, 3) = INDEX", "copy(0, 1, 0, 0, 3) = INDEX",
            "copy(0, 3, 0, 0, 1) = INDEX", "copy(0, 0, 0, 3, 1) = INDEX", "copy(0, 0, 0, 0, -1) = INDEX",
            "copy(0, 0, 2, 0, 1) = INDEX", "copy(2, 0, 0, 0, 1) = INDEX", "copy(0, -1, 0, 0, 1) = INDEX",
            "copy(0, 0, 0, -1, 1) = INDEX", "copy(0, -1, 0, 0, 0) = INDEX", "copy(0, 0, 0, -1, 0) = INDEX",
            "copy(0, 4, 0, 0, 0) = INDEX", "copy(0, 0, 0, 4, 0) = INDEX", "copy(0, 3, 0, 3, -1) = INDEX",
            "copy(0, MAX, 0, 0, 1) = INDEX", "copy(0, 1, 0, 0, MAX) = INDEX", "copy(0, 0, 0, 1, MAX) = INDEX",
            "copy(0, MAX, 0, MAX, MAX) = INDEX", "copy(0, MIN, 0, 0, MIN) = INDEX", "copy(0, MAX, 0, 0, MIN) = INDEX");
    }

    private static void carries() {
        sentence(38, "BAD.");
        refused(RICH, "wish(9, 0) = BAD", "wish(-1, 0) = BAD", "wish(0, 256) = BAD", "wish(0, -1) = BAD",
            "wish(0, NONE) = BAD");
        sentence(39, "BAD; NONE.");
        refused(EMPTY, "carry(1, 0) = NONE", "carry(20, 2) = NONE", "carry(0, 0) = BAD", "carry(21, 0) = BAD",
            "carry(1, 3) = BAD");
        refused(RICH, "carry(20, 0) = NONE", "carry(20, 3) = BAD", "carry(0, 0) = BAD");
        sentence(40, "FULL.");
        refused(FULL, "interpreter() = FULL");
        sentence(41, "BAD: also if they are one.");
        refused(EMPTY, "speaks(0, 1, 2) = BAD");
        refused(RICH, "speaks(0, 3, 3) = BAD", "speaks(0, 0, 0) = BAD", "speaks(2, 1, 2) = BAD",
            "speaks(0, 7, 0) = BAD", "speaks(0, 0, 7) = BAD", "speaks(0, NONE, 1) = BAD", "speaks(0, 1, NONE) = BAD");
        refused(FULL, "speaks(6, 0, 1) = BAD", "speaks(5, 1, 1) = BAD");
        sentence(42, "BAD.");
        refused(RICH, "speech(0, 3, 3) = BAD", "speech(0, 7, 3) = BAD", "speech(0, 3, 7) = BAD",
            "speech(8, 0, 1) = BAD", "speech(-1, 0, 1) = BAD", "speech(8, NONE, 1) = BAD",
            "speech(8, NONE, NONE) = BAD", "speech(0, BAD, 1) = BAD", "speech(-1, 1, NONE) = BAD");
        sentence(43, "BAD.");
        refused(RICH, "heard(0) = BAD", "heard(9) = BAD");
        sentence(44, "BAD: also an HOUR not below n.");
        refused(RICH, "shift(1, 1) = BAD", "shift(3, 3) = BAD", "shift(3, 7) = BAD", "shift(8, 8) = BAD",
            "shift(3, -1) = BAD", "shift(0, 0) = BAD", "shift(0, -1) = BAD", "shift(9, 0) = BAD", "shift(9, 8) = BAD");
        sentence(45, "BAD: also AGAINST with bits above 255; FULL.");
        refused(RICH, "offer(1, 1, 1, 256) = BAD", "offer(1, 1, 1, 257) = BAD", "offer(1, 1, 1, -1) = BAD",
            "offer(0, 1, 1, 0) = BAD", "offer(1, 0, 1, 0) = BAD", "offer(1, 1, -1, 0) = BAD",
            "offer(10, 1, 1, 0) = BAD", "offer(1, 100, 1, 0) = BAD", "offer(1, 1, 1000, 0) = BAD");
        refused(FULL, "offer(1, 1, 1, 0) = FULL", "offer(9, 99, 999, 255) = FULL", "offer(1, 1, 1, 256) = BAD",
            "offer(0, 1, 1, 0) = BAD", "offer(1, 0, 1, 0) = BAD", "offer(1, 1, 1000, 0) = BAD");
        sentence(46, "BAD; NONE.");
        refused(EMPTY, "night(1, 1, 0) = NONE", "night(0, 1, 0) = BAD", "night(1, 0, 0) = BAD", "night(1, 1, 3) = BAD");
        refused(RICH, "night(99, 999, 0) = NONE", "night(99, 999, 3) = BAD", "night(100, 999, 0) = BAD",
            "night(99, 1000, 0) = BAD", "night(1, 1, 0) = NONE", "night(1, 1, -1) = BAD");
    }

    /** No numbers wait behind it, whatever is answered; nothing else changes. */
    private static void checks() {
        sentence(47, "FULL: 60 wait.");
        refused(FULL, "tell(0) = FULL", "tell(MAX) = FULL", "tell(NONE) = FULL");
        sentence(48, "The numbers that wait (none do then, whatever is answered) .. BAD; NONE (0), NO (1: there is no "
            + "IMAGE).");
        Unchanged rich = new Unchanged(Houses.calls(Houses.RICH_NONE_WAIT));
        for (String row : new String[] {"check(2, 1, 1) = BAD", "check(-1, 1, 1) = BAD", "check(0, 0, 1) = BAD",
            "check(0, 1, 0) = BAD", "check(0, 100, 1) = BAD", "check(0, 1, 1000) = BAD", "check(0, 99, 999) = NONE",
            "check(0, 1, 1) = NONE", "check(1, 0, 1) = BAD", "check(1, 31, 1) = BAD", "check(2, 99, 999) = BAD",
            "check(NONE, 1, 1) = BAD"}) {
            rich.by(DUE, RICH_MADE, row);
        }
        List<String> waits = Arrays.asList("member(0, 0)", "tell(1)", "tell(0)");
        Unchanged noneWait = new Unchanged(Arrays.asList("member(0, 0)"));
        for (String row : new String[] {"check(1, 1, 1) = NO", "check(1, 30, 0) = NO", "check(1, 0, 1) = BAD",
            "check(1, 31, 1) = BAD", "check(0, 1, 1) = NONE", "check(0, 0, 1) = BAD"}) {
            noneWait.by(DUE, waits, row);
        }
        List<String> full = new ArrayList<>();
        for (String call : FULL_MADE) {
            if (!call.startsWith("tell")) {
                full.add(call);
            }
        }
        new Unchanged(full).by(DUE, FULL_MADE, "check(1, 1, 1) = NO");
        sentence(50, "NO: there is none.");
        refused(EMPTY, "back() = NO");
        refused(FULL, "back() = NO");
        sentence(51, "BAD.");
        refused(EMPTY, "count(18) = BAD", "count(-1) = BAD");
        refused(RICH, "count(18) = BAD", "count(NONE) = BAD");
    }
}
