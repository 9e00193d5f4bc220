/** The bounds that "Terms", 1, names: MINUTES, THE CLOCK, PARTIES, MEMBERS, TONGUES, TRAINS, PAIRS, PAPERS, STANCES. */
public final class HouseBoundsTest {
    private static final int BAD = BudgetHouse.BAD, NONE = BudgetHouse.NONE;
    private static final Due DUE = new Due("HouseBoundsTest");

    public static void main(String[] args) {
        minutes();
        clock();
        lastMinute();
        parties();
        members();
        tongues();
        trains();
        pairs();
        pairsTill();
        tenPairs();
        papersAtFirst();
        officesAndLands();
        dealsOfParties();
        fortyPapers();
        stances();
        DUE.end();
    }

    private static void sentence(String words) {
        DUE.sentence("Terms 1", words);
    }

    private static void due(BudgetHouse x, String... rows) {
        Calls.due(DUE, x, rows);
    }

    private static BudgetHouse inMinute(int minute) {
        BudgetHouse x = new BudgetHouse();
        for (String row : Houses.minutes(minute)) {
            Calls.ask(x, Calls.callOf(row));
        }
        return x;
    }

    private static void minutes() {
        sentence("MINUTES are numbered; the one that is open is 0 at first (9999 at most)");
        due(new BudgetHouse(), "count(16) = 0", "run(1) = 1", "count(16) = 1", "run(240) = 241", "count(16) = 241");
        due(inMinute(9759), "run(240) = 9999", "count(16) = 9999", "run(1) = FULL", "count(16) = 9999");
        due(inMinute(9760), "run(240) = FULL", "count(16) = 9760", "run(239) = 9999");
        due(inMinute(9998), "run(2) = FULL", "count(16) = 9998", "run(1) = 9999", "run(1) = FULL");
    }

    private static void clock() {
        sentence("THE CLOCK (0 at first) goes on with them, but not while it is STOPPED; HOUR: THE CLOCK / 60");
        BudgetHouse x = new BudgetHouse();
        due(x, "count(17) = 0", "'may h = 1' from 0 = 0", "paper(1, 0, 1) = 0", "paper(1, 0, 1) = 1",
            "paper(1, 0, 1) = 2", "put(0) = NO", "run(59) = 59", "count(17) = 59", "put(0) = NO", "clock(1) = 0",
            "run(60) = 119", "count(17) = 59", "put(0) = NO", "clock(0) = 1", "run(1) = 120", "count(17) = 60",
            "put(0) = 0", "run(59) = 179", "put(1) = 0", "run(1) = 180", "count(17) = 120", "put(2) = NO");
    }

    private static void lastMinute() {
        sentence("the MINUTE is 9999 at most: what is till it, in it, or behind it");
        BudgetHouse x = inMinute(9998);
        due(x, "member(0, 1) = 0", "member(1, 1) = 1", "member(2, 1) = 2", "paper(1, 0, 5) = 0",
            "train(2, 9999) = NONE", "train(2, 9998) = BAD", "pair(0, 1, 9999) = 0", "pair(0, 1, 10000) = BAD",
            "print(0, 0, 1) = 1", "print(0, 1, 2) = 2", "would(0, 2) = 1", "told(0, 6) = 0", "run(1) = 9999",
            "is(2, 3) = 0", "is(0, 4) = NONE", "would(0, 2) = 2", "told(0, 6) = 1", "count(10) = 1",
            "print(0, 2, 0) = 1", "told(0, 6) = 5", "print(0, 3, 1) = 2", "train(0, 9999) = BAD",
            "pair(0, 1, 9999) = BAD", "pair(0, 2, 10000) = BAD", "breaks(0) = NO", "train(2, NONE) = 9999",
            "go(2, 1) = 0", "would(0, 2) = 3");
        due(inMinute(9999), "paper(1, 0, 1) = 0", "'may h = 166 & c = 39' from 166 = 0", "why(1) = 0", "put(0) = 0");
        due(inMinute(9959), "'may 1' from 166 = 0", "why(1) = NONE", "run(1) = 9960", "why(1) = 0");
    }

    private static void parties() {
        sentence("PARTIES 0 .. 8");
        for (int party = 0; party < 9; party++) {
            BudgetHouse x = new BudgetHouse();
            for (int m = 0; m < 9; m++) {
                DUE.is("member(" + m + ", 1)", x.member(m, 1), m);
            }
            due(x, "paper(1, 0, 1) = 0", "print(0, 0, 0) = 0");
            DUE.is("stance(" + party + ", 0, 1)", x.stance(party, 0, 1), 0);
            due(x, "would(0, 0) = 1", "would(0, 1) = 0", "would(0, 2) = 9", "put(0) = 1");
            for (int m = 0; m < 9; m++) {
                DUE.is("is(" + m + ", 5), stance of " + party, x.is(m, 5), m == party ? 1 : 0);
            }
        }
    }

    private static void members() {
        sentence("MEMBERS, 20 at most, numbered from 0: a PARTY, TONGUES, a TRAIN (NONE at first); IN (at first)");
        BudgetHouse x = new BudgetHouse();
        for (int m = 0; m < 20; m++) {
            DUE.is("member, the " + m + ".", x.member(m % 9, 100 + m), m);
        }
        due(x, "member(0, 1) = FULL", "count(0) = 20", "count(1) = 20");
        for (int m = 0; m < 20; m++) {
            int[] want = {m % 9, 100 + m, NONE, 1, NONE, 0};
            for (int what = 0; what < 6; what++) {
                DUE.is("is(" + m + ", " + what + ")", x.is(m, what), want[what]);
            }
        }
        twentyVote();
    }

    private static BudgetHouse houseOfTwenty() {
        BudgetHouse x = new BudgetHouse();
        for (int m = 0; m < 20; m++) {
            x.member(m < 10 ? 0 : 1, 1);
        }
        return x;
    }

    private static void twentyVote() {
        sentence("MEMBERS, 20 at most");
        BudgetHouse x = houseOfTwenty();
        due(x, "paper(1, 0, 1) = 0", "print(0, 0, 0) = 0", "stance(0, 0, 1) = 0", "stance(1, 0, -1) = 0",
            "would(0, 0) = 10", "would(0, 1) = 10", "would(0, 2) = 20", "put(0) = 0", "told(0, 7) = 10",
            "told(0, 8) = 10", "told(0, 9) = 20");
        for (int m = 0; m < 20; m++) {
            DUE.is("is(" + m + ", 5)", x.is(m, 5), 1);
            DUE.is("read(" + m + ", 0)", x.read(m, 0), 1);
            DUE.is("train(" + m + ", 5)", x.train(m, 5), NONE);
        }
        due(x, "run(4) = 4", "count(1) = 20", "run(1) = 5", "count(1) = 0");
        for (int m = 0; m < 20; m++) {
            DUE.is("is(" + m + ", 3)", x.is(m, 3), 0);
            DUE.is("go(" + m + ", 1)", x.go(m, 1), 0);
        }
        due(x, "count(1) = 20", "run(1) = 6", "count(1) = 20");
    }

    private static void tongues() {
        sentence("TONGUES that they read (bits 0 .. 127, of TONGUES 0 .. 6)");
        for (int tongue = 0; tongue < 7; tongue++) {
            BudgetHouse x = new BudgetHouse();
            for (int t = 0; t < 7; t++) {
                x.member(0, 1 << t);
            }
            due(x, "member(0, 127) = 7", "member(0, 0) = 8", "paper(0, 0, 0) = 0");
            x.member(0, 127 - (1 << tongue));
            DUE.is("print(0, " + tongue + ", 0)", x.print(0, tongue, 0), 0);
            DUE.is("told(0, 6)", x.told(0, 6), 1 << tongue);
            for (int m = 0; m < 10; m++) {
                DUE.is("read(" + m + ", 0) in " + tongue, x.read(m, 0), m == tongue || m == 7 ? 1 : 0);
            }
        }
    }

    private static void trains() {
        sentence("a TRAIN (the MINUTE in which they leave; NONE at first)");
        due(inMinute(9997), "member(0, 1) = 0", "member(0, 1) = 1", "train(0, 9998) = NONE", "train(1, 9999) = NONE",
            "run(1) = 9998", "is(0, 3) = 0", "is(1, 3) = 1", "run(1) = 9999", "is(1, 3) = 0", "is(1, 2) = 9999");
        BudgetHouse x = new BudgetHouse();
        due(x, "member(0, 1) = 0", "member(0, 1) = 1", "member(0, 1) = 2", "train(0, 1) = NONE", "train(0, 0) = BAD",
            "train(1, 2) = NONE", "train(2, 241) = NONE", "is(0, 3) = 1", "run(1) = 1", "is(0, 3) = 0", "is(1, 3) = 1",
            "train(1, 1) = BAD", "run(240) = 241", "is(1, 3) = 0", "is(2, 3) = 0", "is(0, 2) = 1", "is(2, 2) = 241",
            "go(0, 1) = 0", "train(0, NONE) = 1", "is(0, 2) = NONE", "run(240) = 481", "is(0, 3) = 1");
        DUE.sentence("Promise 9", "MEMBERS whose TRAIN it is are AWAY: by MINUTE, also while THE CLOCK is STOPPED");
        due(x, "clock(1) = 0", "train(0, 483) = NONE", "train(1, 483) = 2", "run(1) = 482", "is(0, 3) = 1",
            "run(1) = 483", "is(0, 3) = 0", "is(1, 3) = 0");
    }

    private static void pairs() {
        sentence("who is in a PAIR, while it holds, does not vote");
        BudgetHouse x = new BudgetHouse();
        due(x, "member(0, 1) = 0", "member(1, 1) = 1", "member(2, 1) = 2", "paper(1, 0, 1) = 0", "print(0, 0, 0) = 0",
            "stance(0, 0, 1) = 0", "stance(1, 0, -1) = 0", "stance(2, 0, 1) = 0", "pair(0, 1, 9) = 0",
            "would(0, 0) = 1", "would(0, 1) = 0", "would(0, 2) = 1", "put(0) = 1", "is(0, 5) = 0", "is(1, 5) = 0",
            "is(2, 5) = 1", "is(0, 4) = 0", "is(1, 4) = 0", "is(2, 4) = NONE", "go(0, 0) = 1", "is(0, 4) = 0",
            "would(0, 2) = 1", "breaks(0) = 1", "would(0, 2) = 2", "is(0, 4) = NONE", "is(1, 4) = NONE");
        sentence("one MEMBER is in one PAIR at most that holds");
        due(x, "pair(1, 2, 9) = 1", "pair(0, 1, 9) = NO", "pair(2, 0, 9) = NO", "breaks(0) = NO", "breaks(1) = 1",
            "pair(0, 1, 9) = 2", "is(0, 4) = 2", "is(1, 4) = 2", "is(2, 4) = NONE");
    }

    private static void pairsTill() {
        sentence("A PAIR: two MEMBERS, till a MINUTE (that one not any more)");
        BudgetHouse x = new BudgetHouse();
        due(x, "member(0, 1) = 0", "member(1, 1) = 1", "pair(0, 1, 1) = 0", "is(0, 4) = 0", "count(2) = 1",
            "run(1) = 1", "is(0, 4) = NONE", "count(2) = 0", "breaks(0) = NO", "pair(0, 1, 1) = BAD",
            "pair(0, 1, 3) = 1", "clock(1) = 0", "run(1) = 2", "is(1, 4) = 1", "pair(1, 0, 9) = NO", "run(1) = 3",
            "is(1, 4) = NONE", "pair(1, 0, 9) = 2");
        due(inMinute(9997), "member(0, 1) = 0", "member(1, 1) = 1", "pair(0, 1, 9999) = 0", "run(1) = 9998",
            "is(0, 4) = 0", "run(1) = 9999", "is(0, 4) = NONE", "count(2) = 0");
    }

    private static void tenPairs() {
        sentence("10 PAIRS at most (those that hold no more, too), numbered from 0");
        BudgetHouse x = houseOfTwenty();
        for (int p = 0; p < 10; p++) {
            DUE.is("pair, the " + p + ".", x.pair(2 * p, 2 * p + 1, 9), p);
        }
        due(x, "count(2) = 10", "paper(1, 0, 1) = 0", "would(0, 2) = 0", "pair(0, 2, 9) = NO");
        for (int m = 0; m < 20; m++) {
            DUE.is("is(" + m + ", 4)", x.is(m, 4), m / 2);
        }
        due(x, "breaks(9) = 1", "would(0, 2) = 2", "pair(18, 19, 9) = FULL", "count(2) = 9", "run(9) = 9",
            "count(2) = 0", "would(0, 2) = 20", "pair(18, 19, 20) = FULL", "breaks(10) = BAD");
    }

    private static void papersAtFirst() {
        sentence("Each has numbers a, b, and is 0 OPEN (at first)");
        BudgetHouse x = new BudgetHouse();
        due(x, "paper(0, 0, 0) = 0", "paper(1, 73, 9999) = 1", "paper(2, 1, -9999) = 2", "hung(1, 9999, 2, 1) = 3",
            "paper(4, 1, 9999) = 4", "paper(5, 1, 69999) = 5", "paper(6, 87, 4) = 6", "paper(7, 1, 0) = 7");
        int[][] want = {{0, 0, 0}, {1, 73, 9999}, {2, 1, -9999}, {3, 1, 9999}, {4, 1, 9999}, {5, 1, 69999}, {6, 87, 4},
            {7, 1, 0}};
        for (int p = 0; p < 8; p++) {
            int[] facts = {want[p][0], want[p][1], want[p][2], 0, p == 3 ? 2 : NONE, p == 3 ? 1 : 0, 0, NONE, NONE,
                NONE};
            for (int what = 0; what < 10; what++) {
                DUE.is("told(" + p + ", " + what + ")", x.told(p, what), facts[what]);
            }
            DUE.is("as(" + p + ", 0)", x.as(p, 0), want[p][2]);
        }
    }

    private static void officesAndLands() {
        sentence("LINE: a: 10 times its OFFICE (0 .. 7) and its LAND (0 .. 3)");
        for (int a = -20; a < 120; a++) {
            boolean good = a >= 0 && a < 80 && a % 10 < 4;
            BudgetHouse x = new BudgetHouse();
            DUE.is("paper(1, " + a + ", 5)", x.paper(1, a, 5), good ? 0 : BAD);
            for (int what = 2; what < 14; what++) {
                boolean counts = good && (what == 2 + a / 10 || what == 10 + a % 10);
                DUE.is("balance(" + what + ") of line " + a, x.balance(what), counts ? 5 : 0);
            }
        }
    }

    private static void dealsOfParties() {
        sentence("DEAL: a: 10 times a PARTY and a PARTY (unlike ones): the first votes for b");
        for (int a = -20; a < 120; a++) {
            boolean good = a >= 0 && a < 90 && a % 10 < 9 && a / 10 != a % 10;
            BudgetHouse x = new BudgetHouse();
            for (int m = 0; m < 9; m++) {
                x.member(m, 1);
            }
            x.paper(1, 0, 5);
            DUE.is("paper(6, " + a + ", 0)", x.paper(6, a, 0), good ? 1 : BAD);
            DUE.is("would(0, 0) by deal " + a, x.would(0, 0), good ? 1 : 0);
            x.put(0);
            for (int m = 0; m < 9; m++) {
                DUE.is("is(" + m + ", 5) by deal " + a, x.is(m, 5), good && m == a / 10 ? 1 : 0);
            }
        }
        sentence("DEAL: b: a PAPER of KINDS 1 .. 4");
        BudgetHouse x = new BudgetHouse();
        due(x, "paper(0, 0, 0) = 0", "paper(1, 0, 0) = 1", "paper(2, 1, 0) = 2", "hung(1, 0, 2, 0) = 3",
            "paper(4, 1, 0) = 4", "paper(5, 1, 0) = 5", "paper(6, 1, 1) = 6", "paper(7, 1, 0) = 7",
            "paper(6, 1, 0) = BAD", "paper(6, 1, 5) = BAD", "paper(6, 1, 6) = BAD", "paper(6, 1, 7) = BAD",
            "paper(6, 1, 8) = BAD", "paper(6, 1, -1) = BAD", "paper(6, 1, 2) = 8", "paper(6, 1, 3) = 9",
            "paper(6, 1, 4) = 10");
    }

    /** The last one of 40 in each part that a PAPER can have; the first one is the LINE of all. */
    private static void fortyPapers() {
        sentence("PAPERS, 40 at most, numbered from 0");
        BudgetHouse x = new BudgetHouse();
        for (int p = 0; p < 40; p++) {
            DUE.is("paper, the " + p + ".", x.paper(0, 0, 0), p);
        }
        due(x, "paper(0, 0, 0) = FULL", "count(3) = 40", "count(4) = 40", "told(39, 0) = 0", "told(40, 0) = BAD",
            "as(39, 0) = 0", "print(39, 6, 0) = 0", "told(39, 6) = 64", "print(40, 6, 0) = BAD", "stance(8, 39, 9) = 0",
            "stance(8, 39, 0) = 9", "stance(8, 38, 0) = 0");
        due(lastOf("paper(1, 73, 9) = 39"), "balance(0) = -16", "balance(9) = 9", "balance(13) = 9", "line(39, 0) = 9",
            "put(39) = 0", "balance(0) = -7", "told(39, 9) = 1");
        due(lastOf("paper(2, 0, -3) = 39"), "row(0) = 39", "row(1) = NONE", "line(0, 2) = 1", "never(39) = 0",
            "falls(39) = 0", "stance(0, 39, 1) = 0", "print(39, 0, 0) = 0", "put(39) = 1", "told(0, 2) = 4");
        due(lastOf("paper(4, 0, 9) = 39"), "line(0, 3) = 1", "stance(0, 0, 1) = 0", "print(0, 0, 0) = 0", "put(0) = 1",
            "told(39, 3) = 1");
        due(lastOf("paper(4, 0, 9) = 39"), "would(39, 2) = 1", "put(0) = 0", "told(39, 3) = 3");
        due(lastOf("paper(5, 0, 60009) = 39"), "line(0, 1) = 1", "'bind t' from 0 = 0", "line(0, 0) = 9");
        due(lastOf("paper(6, 1, 0) = 39"), "would(0, 0) = 1", "put(0) = 1", "told(39, 3) = 1");
        due(lastOf("paper(6, 10, 0) = 39"), "would(0, 0) = 0", "put(0) = 0", "told(39, 3) = 2");
        due(lastOf("paper(7, 0, 0) = 39"), "rule(39) = NO", "stance(0, 0, 1) = 0", "print(0, 0, 0) = 0", "put(0) = 1",
            "rule(39) = 1", "told(39, 3) = 1", "told(0, 3) = 4", "mend(0) = 1");
        due(lastOf("paper(2, 0, 3) = 39"), "put(0) = 0", "told(39, 3) = 3", "row(0) = NONE");
    }

    /** A LINE 0 with the SUM 7, what fills, and the last PAPER; a MEMBER of PARTY 0. */
    private static BudgetHouse lastOf(String row) {
        BudgetHouse x = new BudgetHouse();
        due(x, "member(0, 1) = 0", "paper(1, 0, 7) = 0");
        for (int p = 1; p < 39; p++) {
            x.paper(0, 0, 0);
        }
        due(x, row, "paper(0, 0, 0) = FULL");
        return x;
    }

    private static void stances() {
        sentence("STANCE of a PARTY on a PAPER: -9 .. 9 (0 at first)");
        BudgetHouse x = new BudgetHouse();
        for (int p = 0; p < 40; p++) {
            x.paper(0, 0, 0);
        }
        for (int p = 0; p < 40; p++) {
            for (int party = 0; party < 9; party++) {
                DUE.is("stance(" + party + ", " + p + ") at first", x.stance(party, p, (party + p) % 19 - 9), 0);
            }
        }
        for (int p = 37; p < 40; p++) {
            for (int party = 0; party < 9; party++) {
                DUE.is("stance(" + party + ", " + p + ")", x.stance(party, p, 0), (party + p) % 19 - 9);
            }
        }
        due(x, "stance(0, 0, -9) = -9", "stance(0, 0, 9) = -9", "stance(0, 0, 10) = BAD", "stance(0, 0, 0) = 9");
    }
}
