/** The bounds that "Terms", 2, names: SHEETS, VOTES, what PASSES, is LOST, FALLS, is VOID, MENDED, NEVER. */
public final class VotesBoundsTest {
    private static final int OPEN = 0, PASSED = 1, LOST = 2, FALLEN = 3, VOID = 4;
    private static final Due DUE = new Due("VotesBoundsTest");

    public static void main(String[] args) {
        sheetsLater();
        thirtySheets();
        came();
        voices();
        counted();
        emptyHouse();
        heldSums();
        linesDecided();
        fallsByMode();
        chainOfForty();
        fallsOfForty();
        dealsOfForty();
        changesOfALine();
        voidOfForty();
        mended();
        neverOfForty();
        fallsWith();
        DUE.end();
    }

    private static void sentence(String words) {
        DUE.sentence("Terms 2", words);
    }

    private static void due(BudgetHouse x, String... rows) {
        Calls.due(DUE, x, rows);
    }

    private static void states(BudgetHouse x, String when, int from, int... want) {
        for (int i = 0; i < want.length; i++) {
            DUE.is("told(" + (from + i) + ", 3) " + when, x.told(from + i, 3), want[i]);
        }
    }

    /** A MEMBER of PARTY 0 who votes by DEALS, and LINES 0, 1 with the SUM 50. */
    private static BudgetHouse house() {
        BudgetHouse x = new BudgetHouse();
        x.member(0, 1);
        x.paper(1, 0, 50);
        x.paper(1, 0, 50);
        return x;
    }

    private static int pass(BudgetHouse x, int paper) {
        x.print(paper, 0, 0);
        x.stance(0, paper, 1);
        return x.put(paper);
    }

    private static int lose(BudgetHouse x, int paper) {
        x.print(paper, 0, 0);
        x.stance(0, paper, -1);
        return x.put(paper);
    }

    private static void sheetsLater() {
        sentence("a PAPER is printed in a TONGUE, and comes so many MINUTES later (with 0 at once)");
        BudgetHouse x = new BudgetHouse();
        due(x, "paper(0, 0, 0) = 0", "run(7) = 7", "print(0, 0, 0) = 0", "told(0, 6) = 1", "print(0, 1, 1) = 1",
            "print(0, 2, 2) = 2", "print(0, 3, 98) = 3", "print(0, 4, 99) = 4", "told(0, 6) = 1", "run(1) = 8",
            "told(0, 6) = 3", "count(10) = 3", "run(1) = 9", "told(0, 6) = 7", "run(95) = 104", "told(0, 6) = 7",
            "count(10) = 2", "run(1) = 105", "told(0, 6) = 15", "run(1) = 106", "told(0, 6) = 31", "count(10) = 0");
        due(x, "print(0, 5, 1) = 1", "print(0, 6, 99) = 2", "run(240) = 346", "told(0, 6) = 127", "count(10) = 0");
        DUE.sentence("Promise 9", "SHEETS that are due come: by MINUTE, also while THE CLOCK is STOPPED");
        due(new BudgetHouse(), "paper(0, 0, 0) = 0", "clock(1) = 0", "print(0, 0, 1) = 1", "run(1) = 1",
            "told(0, 6) = 1");
    }

    private static void thirtySheets() {
        sentence("30 at most on their way");
        BudgetHouse x = new BudgetHouse();
        due(x, "paper(0, 0, 0) = 0", "paper(0, 0, 0) = 1", "print(1, 6, 0) = 0");
        for (int i = 1; i <= 30; i++) {
            DUE.is("print, the " + i + ".", x.print(i % 2, i % 5, i), i);
        }
        due(x, "print(0, 6, 1) = FULL", "print(0, 6, 0) = FULL", "told(0, 6) = 0", "count(10) = 30", "run(1) = 1",
            "count(10) = 29", "told(1, 6) = 66", "print(0, 6, 0) = 29", "told(0, 6) = 64", "print(0, 5, 99) = 30",
            "print(0, 0, 0) = FULL", "run(28) = 29", "count(10) = 2", "told(0, 6) = 95", "told(1, 6) = 95",
            "run(1) = 30", "count(10) = 1", "run(69) = 99", "count(10) = 1", "told(0, 6) = 95", "run(1) = 100",
            "told(0, 6) = 127");
    }

    private static void came() {
        sentence("CAME of a PAPER: TONGUES in which it came (bits)");
        BudgetHouse x = new BudgetHouse();
        x.paper(0, 0, 0);
        x.paper(0, 0, 0);
        for (int t = 0; t < 7; t++) {
            DUE.is("print(1, " + t + ", 0)", x.print(1, t, 0), 0);
            DUE.is("told(1, 6)", x.told(1, 6), (2 << t) - 1);
        }
        due(x, "print(1, 3, 0) = 0", "told(1, 6) = 127", "told(0, 6) = 0");
        sentence("A MEMBER has READ a PAPER, if it CAME in a TONGUE that the MEMBER reads");
        due(x, "member(0, 0) = 0", "member(0, 64) = 1", "member(0, 127) = 2", "read(0, 1) = 0", "read(1, 1) = 1",
            "read(1, 0) = 0", "read(2, 0) = 0", "print(0, 6, 5) = 1", "read(1, 0) = 0", "run(4) = 4", "read(1, 0) = 0",
            "run(1) = 5", "read(1, 0) = 1", "read(2, 0) = 1", "read(0, 0) = 0");
    }

    private static void voices() {
        sentence("yes by a STANCE above 0, no by one below 0; else nothing");
        for (int v = -9; v <= 9; v++) {
            BudgetHouse x = house();
            x.print(0, 0, 0);
            x.stance(0, 0, v);
            x.stance(0, 1, v);
            DUE.is("would(0, 0) by stance " + v, x.would(0, 0), v > 0 ? 1 : 0);
            DUE.is("would(0, 1) by stance " + v, x.would(0, 1), v < 0 ? 1 : 0);
            DUE.is("would(0, 2) by stance " + v, x.would(0, 2), 1);
            DUE.is("would(0, 3) by stance " + v, x.would(0, 3), v > 0 ? 1 : 0);
            DUE.is("would(1, 0) by stance " + v + ", not read", x.would(1, 0), 0);
            DUE.is("would(1, 1) by stance " + v + ", not read", x.would(1, 1), 0);
            x.paper(6, 1, 1);
            DUE.is("would(1, 0) by a deal, not read", x.would(1, 0), 1);
            x.paper(6, 1, 0);
            DUE.is("would(0, 0) by a deal, stance " + v, x.would(0, 0), 1);
            DUE.is("would(0, 1) by a deal, stance " + v, x.would(0, 1), 0);
            x.go(0, 0);
            DUE.is("would(0, 0) by a deal, away", x.would(0, 0), 0);
            DUE.is("would(0, 2), away", x.would(0, 2), 0);
        }
        sentence("yes, if a DEAL that is OPEN binds the PARTY to vote for it");
        due(house(), "paper(6, 1, 0) = 2", "put(0) = 1", "told(2, 3) = 1", "paper(7, 0, 0) = 3", "rule(3) = 1",
            "mend(0) = 1", "told(2, 3) = 1", "would(0, 0) = 0", "paper(6, 1, 0) = 4", "would(0, 0) = 1");
    }

    private static void counted() {
        DUE.sentence("Promise 12", "7 Y, 8 N, 9 P of the latest VOTE on it (NONE: none)");
        BudgetHouse x = house();
        due(x, "would(0, 0) = 0", "told(0, 7) = NONE", "told(0, 8) = NONE", "told(0, 9) = NONE", "put(0) = 0",
            "told(0, 7) = 0", "told(0, 8) = 0", "told(0, 9) = 1", "member(0, 1) = 1", "put(0) = NO", "told(0, 9) = 1",
            "told(1, 9) = NONE");
        DUE.sentence("Promise 3", "5 how often voted yes or no, as a PAPER was PUT");
        BudgetHouse y = house();
        due(y, "is(0, 5) = 0", "member(1, 1) = 1", "member(2, 1) = 2", "member(3, 2) = 3", "print(0, 0, 0) = 0",
            "stance(0, 0, 1) = 0", "stance(1, 0, -1) = 0", "stance(3, 0, 5) = 0", "would(0, 0) = 1", "would(0, 1) = 1",
            "is(0, 5) = 0", "put(0) = 0", "is(0, 5) = 1", "is(1, 5) = 1", "is(2, 5) = 0", "is(3, 5) = 0", "put(0) = NO",
            "is(0, 5) = 1", "paper(6, 1, 1) = 2", "put(1) = 1", "is(0, 5) = 2", "is(1, 5) = 1", "put(1) = NO",
            "is(0, 5) = 2");
    }

    private static void emptyHouse() {
        sentence("A VOTE .. each MEMBER who is IN (nobody is)");
        BudgetHouse x = new BudgetHouse();
        due(x, "paper(1, 0, 5) = 0", "would(0, 0) = 0", "would(0, 1) = 0", "would(0, 2) = 0", "would(0, 3) = 0",
            "put(0) = 0", "told(0, 9) = 0");
        due(new BudgetHouse(), "paper(1, 0, 5) = 0", "'pass 1' from 0 = 0", "would(0, 3) = 1", "put(0) = 1",
            "told(0, 7) = 0");
        DUE.sentence("Terms 3", "Without a TEXT: pass: y > n");
        BudgetHouse y = house();
        due(y, "member(1, 1) = 1", "print(0, 0, 0) = 0", "stance(0, 0, 1) = 0", "stance(1, 0, -1) = 0",
            "would(0, 3) = 0", "member(0, 1) = 2", "would(0, 3) = 1", "member(1, 1) = 3", "would(0, 3) = 0",
            "member(1, 1) = 4", "put(0) = 0");
    }

    private static void heldSums() {
        sentence("A CHANGE that is PASSED: the SUM of its LINE is MORE by that, within 0 .. 9999");
        int[][] rows = {{9998, 1, 9999}, {9998, 2, 9999}, {9999, 0, 9999}, {9999, 1, 9999}, {9999, 9999, 9999}, {0,
            9999, 9999}, {1, 9999, 9999}, {0, 0, 0}, {0, -1, 0}, {1, -1, 0}, {1, -2, 0}, {9999, -9999, 0}, {9998, -9999,
            0}, {9999, -9998, 1}, {0, -9999, 0}, {5000, 4999, 9999}, {5000, 5000, 9999}, {5000, -5000, 0}, {5000, -5001,
            0}};
        for (int[] r : rows) {
            BudgetHouse x = new BudgetHouse();
            x.member(0, 1);
            x.paper(1, 0, r[0]);
            x.paper(2, 0, r[1]);
            x.hung(0, r[1], 1, 1);
            pass(x, 1);
            DUE.is("told(0, 2), " + r[0] + " and " + r[1] + " more", x.told(0, 2), r[2]);
            DUE.is("told(1, 2)", x.told(1, 2), r[1]);
            pass(x, 2);
            DUE.is("told(0, 2), once more", x.told(0, 2), Math.max(0, Math.min(9999, r[2] + r[1])));
        }
        BudgetHouse x = house();
        due(x, "paper(2, 0, 5) = 2", "put(2) = 0", "told(0, 2) = 50", "told(1, 2) = 50");
    }

    private static void linesDecided() {
        sentence("A LINE that is LOST: each OPEN CHANGE to it FALLS, its RIDERS that are OPEN, too; one that is "
            + "PASSED: its RIDERS that are OPEN are PASSED");
        BudgetHouse x = house();
        due(x, "paper(2, 0, 5) = 2", "paper(2, 0, 6) = 3", "paper(2, 0, 7) = 4", "paper(4, 0, 7) = 5",
            "paper(2, 1, 7) = 6", "paper(4, 1, 7) = 7", "paper(5, 0, 7) = 8", "paper(7, 0, 0) = 9",
            "hung(0, 7, 6, 0) = 10", "hung(1, 7, 4, 0) = 11", "hung(0, 7, 2, 0) = 12");
        pass(x, 2);
        lose(x, 3);
        states(x, "ahead of put(0)", 0, OPEN, OPEN, PASSED, LOST, OPEN, OPEN, OPEN, OPEN, OPEN, OPEN, OPEN, OPEN,
            FALLEN);
        lose(x, 0);
        states(x, "behind put(0)", 0, LOST, OPEN, PASSED, LOST, FALLEN, FALLEN, OPEN, OPEN, OPEN, OPEN, FALLEN, OPEN,
            FALLEN);
        pass(x, 1);
        states(x, "behind put(1)", 0, LOST, PASSED, PASSED, LOST, FALLEN, FALLEN, OPEN, PASSED, OPEN, OPEN, FALLEN,
            OPEN, FALLEN);
        due(x, "put(6) = NO", "put(11) = NO", "told(8, 3) = 0", "told(9, 3) = 0");
    }

    /** One HUNG one of each MODE on a CHANGE in each state; then something is PUT that has nothing to do with them. */
    private static void fallsByMode() {
        sentence("MODE: 0 it FALLS as that is PASSED (before, too), 1 it COMES with that: .. FALLS as that is LOST, "
            + "FALLEN or VOID");
        BudgetHouse x = house();
        due(x, "paper(1, 0, 50) = 2", "paper(1, 0, 50) = 3", "paper(2, 0, 1) = 4", "paper(2, 0, 1) = 5",
            "paper(2, 0, 1) = 6", "paper(2, 1, 1) = 7", "paper(2, 2, 1) = 8", "paper(7, 2, 0) = 9",
            "hung(0, 1, 4, 0) = 10", "hung(0, 1, 4, 1) = 11");
        pass(x, 5);
        lose(x, 6);
        lose(x, 1);
        pass(x, 8);
        pass(x, 2);
        due(x, "rule(9) = 2");
        states(x, "of what is hung on", 4, OPEN, PASSED, LOST, FALLEN, VOID, PASSED, OPEN, OPEN);
        due(x, "hung(0, 1, 5, 0) = 12", "hung(0, 1, 5, 1) = 13", "hung(0, 1, 6, 0) = 14", "hung(0, 1, 6, 1) = 15",
            "hung(0, 1, 7, 0) = 16", "hung(0, 1, 7, 1) = 17", "hung(0, 1, 8, 0) = 18", "hung(0, 1, 8, 1) = 19");
        states(x, "as they are new", 10, OPEN, OPEN, OPEN, OPEN, OPEN, OPEN, OPEN, OPEN, OPEN, OPEN);
        lose(x, 3);
        states(x, "as something else is put", 10, OPEN, OPEN, FALLEN, OPEN, OPEN, FALLEN, OPEN, FALLEN, OPEN, FALLEN);
        due(x, "put(11) = NO", "put(13) = 0");
        pass(x, 4);
        states(x, "as what they hang on passes", 10, FALLEN, OPEN);
    }

    private static void chainOfForty() {
        sentence("Then, as long as there is one, the first (least) HUNG one that is OPEN, and FALLS as told by "
            + "MODE, is FALLEN");
        BudgetHouse x = new BudgetHouse();
        due(x, "member(0, 1) = 0", "paper(1, 0, 50) = 0", "paper(2, 0, 1) = 1");
        for (int p = 2; p < 40; p++) {
            DUE.is("hung, the " + p + ".", x.hung(0, 1, p - 1, 1), p);
        }
        due(x, "hung(0, 1, 39, 1) = FULL", "never(39) = 0", "falls(39) = 0", "falls(1) = 0", "put(39) = NO",
            "put(2) = NO", "row(38) = 39", "row(39) = NONE", "line(0, 2) = 39");
        lose(x, 1);
        for (int p = 2; p < 40; p++) {
            DUE.is("told(" + p + ", 3)", x.told(p, 3), FALLEN);
        }
        due(x, "row(0) = NONE", "count(7) = 38");
    }

    private static void fallsOfForty() {
        sentence("FALLS WITH a CHANGE: how many HUNG ones would be FALLEN as told, if it were PASSED now");
        BudgetHouse x = new BudgetHouse();
        due(x, "member(0, 1) = 0", "paper(1, 0, 50) = 0", "paper(2, 0, 1) = 1", "hung(0, 1, 1, 0) = 2");
        for (int p = 3; p < 40; p++) {
            DUE.is("hung, the " + p + ".", x.hung(0, 1, p - 1, 1), p);
        }
        due(x, "falls(1) = 38", "falls(2) = 0", "count(4) = 40", "told(39, 3) = 0");
        pass(x, 1);
        for (int p = 2; p < 40; p++) {
            DUE.is("told(" + p + ", 3)", x.told(p, 3), FALLEN);
        }
        BudgetHouse y = new BudgetHouse();
        due(y, "member(0, 1) = 0", "paper(1, 0, 50) = 0", "paper(2, 0, 1) = 1");
        for (int p = 2; p < 40; p++) {
            y.hung(0, 1, 1, p % 2);
        }
        due(y, "falls(1) = 19", "falls(39) = 0", "never(39) = 0");
        pass(y, 1);
        for (int p = 2; p < 40; p++) {
            DUE.is("told(" + p + ", 3)", y.told(p, 3), p % 2 == 0 ? FALLEN : OPEN);
        }
        due(y, "put(39) = 0", "told(0, 2) = 51");
    }

    private static void dealsOfForty() {
        sentence("A DEAL for a PAPER that is no more OPEN is PASSED, if that PASSED, else LOST (DEALS that are "
            + "OPEN, behind all that, by numbers)");
        BudgetHouse x = house();
        due(x, "paper(2, 0, 1) = 2", "hung(0, 1, 2, 0) = 3", "paper(4, 0, 1) = 4", "paper(4, 1, 1) = 5");
        for (int p = 6; p < 40; p++) {
            DUE.is("deal, the " + p + ".", x.paper(6, 17, p % 6), p);
        }
        pass(x, 2);
        for (int p = 6; p < 40; p++) {
            DUE.is("told(" + p + ", 3) as a change passes", x.told(p, 3),
                p % 6 == 2 ? PASSED : p % 6 == 3 ? LOST : OPEN);
        }
        pass(x, 0);
        int[] want = {PASSED, OPEN, PASSED, LOST, PASSED, OPEN};
        for (int p = 6; p < 40; p++) {
            DUE.is("told(" + p + ", 3) as line 0 passes", x.told(p, 3), want[p % 6]);
        }
        lose(x, 1);
        int[] last = {PASSED, LOST, PASSED, LOST, PASSED, LOST};
        for (int p = 6; p < 40; p++) {
            DUE.is("told(" + p + ", 3) as line 1 is lost", x.told(p, 3), last[p % 6]);
        }
        lateDeals();
    }

    private static void lateDeals() {
        BudgetHouse x = house();
        due(x, "paper(1, 0, 1) = 2", "paper(7, 0, 0) = 3", "paper(4, 0, 1) = 4");
        pass(x, 0);
        lose(x, 1);
        due(x, "paper(6, 17, 0) = 5", "paper(6, 17, 1) = 6", "paper(6, 17, 2) = 7", "paper(6, 17, 4) = 8");
        states(x, "of deals that came late", 5, OPEN, OPEN, OPEN, OPEN);
        due(x, "rule(3) = 2");
        states(x, "behind rule(3)", 5, LOST, LOST, OPEN, LOST);
        due(x, "paper(6, 17, 0) = 9", "mend(0) = 1");
        states(x, "behind mend(0)", 9, OPEN);
        pass(x, 2);
        states(x, "behind put(2)", 5, LOST, LOST, PASSED, LOST, OPEN);
        pass(x, 0);
        states(x, "behind put(0)", 9, PASSED);
    }

    private static void changesOfALine() {
        DUE.sentence("Promise 24",
            "1 how many UNLIKE, 2 how many CHANGES to it are OPEN, 3 RIDERS on it (in any state)");
        BudgetHouse x = new BudgetHouse();
        x.member(0, 1);
        x.paper(1, 0, 50);
        for (int p = 1; p < 40; p++) {
            x.paper(p < 14 ? 2 : p < 27 ? 4 : 5, 0, p < 27 ? p : 10000 * (p % 7) + 24 + p);
        }
        due(x, "line(0, 1) = 13", "line(0, 2) = 13", "line(0, 3) = 13");
        lose(x, 13);
        pass(x, 1);
        due(x, "told(0, 2) = 51", "line(0, 1) = 12", "line(0, 2) = 11", "line(0, 3) = 13");
        lose(x, 0);
        due(x, "line(0, 1) = 12", "line(0, 2) = 0", "line(0, 3) = 13", "told(26, 3) = 3");
        BudgetHouse last = new BudgetHouse();
        for (int p = 0; p < 38; p++) {
            last.paper(0, 0, 0);
        }
        due(last, "paper(1, 0, 50) = 38", "paper(4, 38, 1) = 39", "line(38, 3) = 1", "line(38, 2) = 0",
            "line(38, 1) = 0");
    }

    private static void voidOfForty() {
        sentence("A RULING on a LINE that is PASSED: the LINE is VOID, and all CHANGES to it that PASSED are VOID "
            + "(its SUM stays), then HUNG ones FALL as told, and its RIDERS (in any state but VOID) are VOID; the "
            + "RULING is PASSED");
        BudgetHouse x = new BudgetHouse();
        due(x, "member(0, 1) = 0", "paper(1, 0, 50) = 0", "paper(7, 0, 0) = 1", "paper(1, 0, 50) = 2");
        for (int p = 3; p < 40; p++) {
            DUE.is("paper, the " + p + ".", x.paper(p % 2 == 0 ? 2 : 4, 0, 1), p);
        }
        for (int p = 36; p < 40; p += 2) {
            pass(x, p);
        }
        lose(x, 4);
        pass(x, 0);
        due(x, "told(0, 2) = 52", "told(39, 3) = 1", "rule(1) = 22", "told(0, 2) = 52", "told(1, 3) = 1",
            "rule(1) = NO");
        for (int p = 3; p < 40; p++) {
            int even = p >= 36 ? VOID : p == 4 ? LOST : OPEN;
            DUE.is("told(" + p + ", 3)", x.told(p, 3), p % 2 == 1 ? VOID : even);
        }
        due(x, "count(8) = 22", "told(2, 3) = 0", "told(0, 3) = 4");
        ruledAgain();
    }

    private static void ruledAgain() {
        BudgetHouse x = house();
        due(x, "paper(4, 0, 1) = 2", "paper(7, 0, 0) = 3", "paper(7, 0, 0) = 4", "paper(7, 0, 0) = 5", "rule(3) = NO");
        lose(x, 1);
        due(x, "paper(7, 1, 0) = 6", "rule(6) = NO");
        pass(x, 0);
        due(x, "rule(3) = 2", "rule(4) = NO", "mend(0) = 1", "rule(4) = NO");
        pass(x, 0);
        due(x, "rule(3) = NO", "told(0, 3) = 1", "paper(4, 0, 1) = 7", "rule(4) = 2", "told(7, 3) = 4", "mend(0) = 1");
        pass(x, 0);
        due(x, "rule(5) = 1");
        BudgetHouse y = house();
        due(y, "paper(4, 0, 1) = 2", "paper(4, 1, 1) = 3", "paper(7, 1, 0) = 4", "paper(2, 0, 5) = 5",
            "hung(0, 5, 5, 1) = 6", "hung(0, 5, 5, 0) = 7", "paper(2, 1, 5) = 8", "hung(0, 5, 8, 1) = 9",
            "hung(0, 5, 8, 0) = 10");
        pass(y, 5);
        pass(y, 8);
        pass(y, 1);
        due(y, "hung(0, 5, 8, 0) = 11", "rule(4) = 3");
        states(y, "behind rule(4)", 0, OPEN, VOID, OPEN, VOID, PASSED, PASSED, OPEN, FALLEN, VOID, FALLEN, FALLEN,
            OPEN);
    }

    private static void mended() {
        sentence("A LINE that is VOID may be MENDED: OPEN again");
        BudgetHouse x = house();
        due(x, "paper(2, 0, 5) = 2", "paper(7, 0, 0) = 3", "paper(4, 0, 5) = 4", "mend(0) = NO");
        pass(x, 2);
        pass(x, 0);
        due(x, "mend(0) = NO", "rule(3) = 3", "put(0) = NO", "mend(0) = 1", "mend(0) = NO", "told(0, 2) = 55",
            "put(2) = NO", "told(0, 7) = 1", "paper(2, 0, 5) = 5", "never(5) = 0");
        states(x, "behind mend(0)", 0, OPEN, OPEN, VOID, PASSED, VOID, OPEN);
        lose(x, 0);
        states(x, "behind put(0)", 0, LOST, OPEN, VOID, PASSED, VOID, FALLEN);
        due(x, "mend(0) = NO", "told(0, 8) = 1");
        mendsNothingElse();
    }

    /** What FALLS and which DEALS are done with is looked at behind PUT and RULING alone. */
    private static void mendsNothingElse() {
        BudgetHouse x = house();
        due(x, "paper(2, 1, 5) = 2", "paper(7, 0, 0) = 3", "paper(1, 0, 5) = 4", "paper(2, 1, 5) = 5");
        pass(x, 2);
        lose(x, 5);
        pass(x, 0);
        lose(x, 4);
        due(x, "rule(3) = 1", "hung(1, 1, 2, 0) = 6", "hung(1, 1, 5, 1) = 7", "paper(6, 12, 2) = 8",
            "paper(6, 12, 4) = 9", "paper(4, 0, 1) = 10", "mend(0) = 1", "run(1) = 1", "keep() = 1", "go(0, 0) = 1");
        states(x, "behind mend(0)", 6, OPEN, OPEN, OPEN, OPEN, OPEN);
        due(x, "go(0, 1) = 0");
        lose(x, 1);
        states(x, "behind put(1)", 6, FALLEN, FALLEN, PASSED, LOST, OPEN);
    }

    private static void neverOfForty() {
        sentence("NEVER: an OPEN CHANGE whose LINE is not OPEN, or that is of MODE 1 and hangs ON one that is LOST, "
            + "FALLEN or VOID, or NEVER");
        BudgetHouse x = house();
        due(x, "paper(2, 0, 1) = 2");
        for (int p = 3; p < 40; p++) {
            DUE.is("hung, the " + p + ".", x.hung(1, 1, p - 1, 1), p);
        }
        due(x, "never(2) = 0", "never(39) = 0");
        pass(x, 0);
        for (int p = 2; p < 40; p++) {
            DUE.is("never(" + p + ")", x.never(p), 1);
        }
        neverByMode();
    }

    private static void neverByMode() {
        BudgetHouse x = house();
        due(x, "paper(2, 0, 1) = 2", "hung(1, 1, 2, 0) = 3", "hung(1, 1, 2, 1) = 4", "hung(1, 1, 4, 0) = 5",
            "hung(1, 1, 3, 1) = 6", "paper(2, 1, 1) = 7", "hung(0, 1, 7, 1) = 8", "paper(2, 1, 1) = 9",
            "paper(2, 1, 1) = 10");
        pass(x, 0);
        due(x, "never(2) = 1", "never(3) = 0", "never(4) = 1", "never(5) = 0", "never(6) = 0", "never(7) = 0",
            "never(8) = 1");
        pass(x, 9);
        lose(x, 10);
        due(x, "hung(1, 1, 9, 1) = 11", "hung(1, 1, 10, 1) = 12", "hung(1, 1, 10, 0) = 13", "hung(1, 1, 12, 1) = 14",
            "hung(1, 1, 9, 0) = 15", "never(11) = 0", "never(12) = 1", "never(13) = 0", "never(14) = 1",
            "never(15) = 0", "never(9) = NO", "never(10) = NO");
        sentence("NEVER: .. whose LINE is not OPEN: LOST, VOID; MENDED, it is OPEN");
        BudgetHouse y = house();
        due(y, "paper(7, 0, 0) = 2", "paper(2, 0, 1) = 3");
        pass(y, 0);
        due(y, "never(3) = 1", "rule(2) = 1", "never(3) = 1", "mend(0) = 1", "never(3) = 0");
        lose(y, 0);
        due(y, "never(3) = NO", "paper(2, 0, 1) = 4", "never(4) = 1");
    }

    private static void fallsWith() {
        sentence("FALLS WITH .. (those that would be without it, too; all else as it is)");
        BudgetHouse x = house();
        due(x, "paper(2, 0, 1) = 2", "paper(2, 0, 1) = 3", "paper(6, 1, 2) = 4", "falls(2) = 0", "falls(3) = 0");
        pass(x, 2);
        due(x, "hung(0, 1, 2, 0) = 5", "hung(0, 1, 5, 1) = 6", "hung(0, 1, 3, 1) = 7", "hung(0, 1, 3, 0) = 8",
            "falls(3) = 3", "falls(5) = 0", "falls(6) = 1", "falls(7) = 2", "falls(8) = 2", "falls(2) = NO");
        states(x, "behind falls()", 2, PASSED, OPEN, PASSED, OPEN, OPEN, OPEN, OPEN);
        due(x, "told(0, 2) = 51", "told(3, 9) = NONE", "is(0, 5) = 1");
        pass(x, 3);
        states(x, "behind put(3)", 5, FALLEN, FALLEN, OPEN, FALLEN);
    }
}
