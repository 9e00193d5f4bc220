/** Promises 10 to 24: papers, sheets, votes, rulings, the row. */
public final class PapersTest {
    private static final int BAD = BudgetHouse.BAD, NO = BudgetHouse.NO, FULL = BudgetHouse.FULL,
        NONE = BudgetHouse.NONE, KIND = BudgetHouse.KIND;
    private static final int OPEN = 0, PASSED = 1, LOST = 2, FALLEN = 3, VOID = 4;
    private static final Due DUE = new Due("PapersTest");

    public static void main(String[] args) {
        paper();
        hung();
        told();
        as();
        stance();
        print();
        read();
        would();
        deals();
        put();
        putLines();
        putHung();
        rule();
        mend();
        falls();
        never();
        row();
        line();
        DUE.end();
    }

    /** One member of party 0 who reads tongue 0. */
    private static BudgetHouse house() {
        BudgetHouse x = new BudgetHouse();
        x.member(0, 1);
        return x;
    }

    private static void favour(BudgetHouse x, int paper, int v) {
        x.print(paper, 0, 0);
        x.stance(0, paper, v);
    }

    private static int pass(BudgetHouse x, int paper) {
        favour(x, paper, 1);
        return x.put(paper);
    }

    private static int lose(BudgetHouse x, int paper) {
        favour(x, paper, -1);
        return x.put(paper);
    }

    private static void states(BudgetHouse x, String when, int... want) {
        for (int p = 0; p < want.length; p++) {
            DUE.is("told(" + p + ", 3) " + when, x.told(p, 3), want[p]);
        }
    }

    private static void refusesPapers(BudgetHouse x, int[][] bad) {
        for (int[] b : bad) {
            DUE.is("paper(" + b[0] + ", " + b[1] + ", " + b[2] + ")", x.paper(b[0], b[1], b[2]), BAD);
        }
    }

    private static void takesPapers(BudgetHouse x, int from, int[][] good) {
        int number = from;
        for (int[] g : good) {
            DUE.is("paper(" + g[0] + ", " + g[1] + ", " + g[2] + ")", x.paper(g[0], g[1], g[2]), number);
            number++;
        }
    }

    private static void paper() {
        DUE.promise(10);
        BudgetHouse x = new BudgetHouse();
        refusesPapers(x, new int[][] {{-1, 0, 0}, {8, 0, 0}, {0, 1, 0}, {0, 0, 1}, {0, -1, 0}, {1, -1, 0}, {1, 80, 0},
            {1, 4, 0}, {1, 9, 0}, {1, 0, -1}, {1, 0, 10000}, {2, 0, 1}, {4, 0, 1}, {5, 0, 1}, {6, 1, 0}, {7, 0, 0}});
        takesPapers(x, 0, new int[][] {{0, 0, 0}, {1, 0, 0}, {1, 73, 9999}, {2, 1, 9999}, {2, 2, -9999}, {4, 2, 0},
            {4, 1, 9999}, {5, 1, 0}, {5, 1, 69999}, {6, 1, 1}, {6, 80, 3}, {6, 78, 5}, {7, 1, 0}});
        DUE.is("hung(1, 5, 3, 0)", x.hung(1, 5, 3, 0), 13);
        refusesPapers(x, new int[][] {{2, 0, 1}, {2, 3, 1}, {2, 13, 1}, {2, 14, 1}, {2, -1, 1}, {2, 1, 10000},
            {2, 1, -10000}, {3, 1, 1}, {4, 3, 1}, {4, 0, 1}, {4, 1, -1}, {4, 1, 10000}, {5, 1, -1}, {5, 1, 70000},
            {5, 3, 1}, {5, 0, 1}, {6, 11, 1}, {6, 0, 1}, {6, 9, 1}, {6, 90, 1}, {6, -1, 1}, {6, -10, 1}, {6, 1, 0},
            {6, 1, 7}, {6, 1, 9}, {6, 1, 12}, {6, 1, 14}, {6, 1, -1}, {7, 1, 1}, {7, 3, 0}, {7, 0, 0}, {7, 14, 0}});
        DUE.is("a deal for a hung one", x.paper(6, 1, 13), 14);
        DUE.is("count(3)", x.count(3), 15);
        for (int p = 15; p < 40; p++) {
            DUE.is("paper(0, 0, 0)", x.paper(0, 0, 0), p);
        }
        DUE.is("paper behind 40", x.paper(0, 0, 0), FULL);
        DUE.is("a bad paper behind 40", x.paper(0, 0, 1), BAD);
        DUE.promise(11);
        DUE.is("hung behind 40", x.hung(1, 5, 3, 0), FULL);
        DUE.is("a bad hung one behind 40", x.hung(1, 5, 3, 2), BAD);
    }

    private static void hung() {
        DUE.promise(11);
        BudgetHouse x = new BudgetHouse();
        x.paper(1, 0, 5);
        x.paper(1, 11, 5);
        x.paper(2, 0, 5);
        x.paper(4, 0, 5);
        DUE.is("hung(0, 5, 3, 0): on a rider", x.hung(0, 5, 3, 0), BAD);
        DUE.is("hung(0, 5, 0, 0): on a line", x.hung(0, 5, 0, 0), BAD);
        DUE.is("hung(0, 5, 4, 0): on itself", x.hung(0, 5, 4, 0), BAD);
        DUE.is("hung(0, 5, -1, 0)", x.hung(0, 5, -1, 0), BAD);
        DUE.is("hung(2, 5, 2, 0): a change is no line", x.hung(2, 5, 2, 0), BAD);
        DUE.is("hung(9, 5, 2, 0)", x.hung(9, 5, 2, 0), BAD);
        DUE.is("hung(0, 10000, 2, 0)", x.hung(0, 10000, 2, 0), BAD);
        DUE.is("hung(0, -10000, 2, 0)", x.hung(0, -10000, 2, 0), BAD);
        DUE.is("hung(0, 5, 2, 2)", x.hung(0, 5, 2, 2), BAD);
        DUE.is("hung(0, 5, 2, -1)", x.hung(0, 5, 2, -1), BAD);
        DUE.is("hung(1, 9999, 2, 1): another line", x.hung(1, 9999, 2, 1), 4);
        DUE.is("hung(0, -9999, 4, 0)", x.hung(0, -9999, 4, 0), 5);
        DUE.is("count(4)", x.count(4), 6);
    }

    private static void told() {
        DUE.promise(12);
        BudgetHouse x = house();
        x.paper(1, 31, 50);
        x.paper(2, 0, 7);
        x.hung(0, -3, 1, 1);
        int[][] want = {{1, 31, 50, 0, NONE, 0, 0, NONE, NONE, NONE}, {2, 0, 7, 0, NONE, 0, 0, NONE, NONE, NONE},
            {3, 0, -3, 0, 1, 1, 0, NONE, NONE, NONE}};
        for (int p = 0; p < 3; p++) {
            for (int what = 0; what < 10; what++) {
                DUE.is("told(" + p + ", " + what + ")", x.told(p, what), want[p][what]);
            }
        }
        DUE.is("told(0, 10)", x.told(0, 10), BAD);
        DUE.is("told(0, -1)", x.told(0, -1), BAD);
        DUE.is("told(3, 0)", x.told(3, 0), BAD);
        DUE.is("told(-1, 0)", x.told(-1, 0), BAD);
        x.member(1, 1);
        x.member(2, 2);
        x.member(0, 3);
        x.stance(1, 1, -1);
        favour(x, 1, 1);
        x.would(1, 0);
        DUE.is("told(1, 7): would() is no vote", x.told(1, 7), NONE);
        x.put(1);
        DUE.is("told(1, 6)", x.told(1, 6), 1);
        DUE.is("told(1, 7)", x.told(1, 7), 2);
        DUE.is("told(1, 8)", x.told(1, 8), 1);
        DUE.is("told(1, 9)", x.told(1, 9), 4);
        DUE.is("told(0, 2)", x.told(0, 2), 57);
        DUE.is("told(0, 7)", x.told(0, 7), NONE);
        latestVote();
    }

    private static void latestVote() {
        BudgetHouse x = house();
        x.paper(1, 0, 5);
        x.paper(7, 0, 0);
        pass(x, 0);
        x.rule(1);
        x.mend(0);
        DUE.is("told(0, 7) behind rule and mend", x.told(0, 7), 1);
        x.member(0, 1);
        lose(x, 0);
        DUE.is("told(0, 7) of the latest vote", x.told(0, 7), 0);
        DUE.is("told(0, 8) of the latest vote", x.told(0, 8), 2);
        DUE.is("told(0, 9) of the latest vote", x.told(0, 9), 2);
    }

    private static void as() {
        DUE.promise(13);
        BudgetHouse x = new BudgetHouse();
        x.paper(0, 0, 0);
        x.paper(1, 0, 1);
        x.paper(2, 1, 2);
        x.hung(1, 3, 2, 0);
        x.paper(4, 1, 4);
        x.paper(5, 1, 20005);
        x.paper(6, 1, 2);
        x.paper(7, 1, 0);
        int[] b = {0, 1, 2, 3, 4, 20005, 2, 0};
        for (int p = 0; p < 8; p++) {
            for (int kind = 0; kind < 8; kind++) {
                boolean is = kind == 0 || kind == p || p == 2 && kind == 1 || p == 3 && (kind == 1 || kind == 2);
                DUE.is("as(" + p + ", " + kind + ")", x.as(p, kind), is ? b[p] : KIND);
            }
        }
        DUE.is("as(0, 8)", x.as(0, 8), BAD);
        DUE.is("as(0, -1)", x.as(0, -1), BAD);
        DUE.is("as(8, 0)", x.as(8, 0), BAD);
        DUE.is("as(-1, 0)", x.as(-1, 0), BAD);
    }

    private static void stance() {
        DUE.promise(14);
        BudgetHouse x = new BudgetHouse();
        x.paper(0, 0, 0);
        x.paper(1, 0, 0);
        DUE.is("stance(9, 0, 0)", x.stance(9, 0, 0), BAD);
        DUE.is("stance(-1, 0, 0)", x.stance(-1, 0, 0), BAD);
        DUE.is("stance(0, 2, 0)", x.stance(0, 2, 0), BAD);
        DUE.is("stance(0, -1, 0)", x.stance(0, -1, 0), BAD);
        DUE.is("stance(0, 0, 10)", x.stance(0, 0, 10), BAD);
        DUE.is("stance(0, 0, -10)", x.stance(0, 0, -10), BAD);
        DUE.is("stance(8, 1, 9)", x.stance(8, 1, 9), 0);
        DUE.is("stance(8, 1, -9)", x.stance(8, 1, -9), 9);
        DUE.is("stance(8, 1, 0)", x.stance(8, 1, 0), -9);
        DUE.is("stance(7, 1, 0)", x.stance(7, 1, 0), 0);
        DUE.is("stance(8, 0, 0)", x.stance(8, 0, 0), 0);
    }

    private static void print() {
        DUE.promise(15);
        BudgetHouse x = new BudgetHouse();
        x.paper(0, 0, 0);
        DUE.is("print(1, 0, 0)", x.print(1, 0, 0), BAD);
        DUE.is("print(-1, 0, 0)", x.print(-1, 0, 0), BAD);
        DUE.is("print(0, 7, 0)", x.print(0, 7, 0), BAD);
        DUE.is("print(0, -1, 0)", x.print(0, -1, 0), BAD);
        DUE.is("print(0, 0, -1)", x.print(0, 0, -1), BAD);
        DUE.is("print(0, 0, 100)", x.print(0, 0, 100), BAD);
        DUE.is("print(0, 6, 0)", x.print(0, 6, 0), 0);
        DUE.is("told(0, 6)", x.told(0, 6), 64);
        x.clock(1);
        for (int i = 1; i <= 30; i++) {
            DUE.is("print, the " + i + ".", x.print(0, i % 6, i < 30 ? 99 : 2), i);
        }
        DUE.is("print behind 30", x.print(0, 0, 9), FULL);
        DUE.is("print behind 30, at once", x.print(0, 0, 0), FULL);
        DUE.is("a bad print behind 30", x.print(0, 7, 0), BAD);
        DUE.is("told(0, 6)", x.told(0, 6), 64);
        x.run(1);
        DUE.is("told(0, 6)", x.told(0, 6), 64);
        x.run(1);
        DUE.is("told(0, 6): the clock stopped, minutes go on", x.told(0, 6), 65);
        DUE.is("print(0, 1, 0)", x.print(0, 1, 0), 29);
        DUE.is("told(0, 6)", x.told(0, 6), 67);
        x.run(97);
        DUE.is("told(0, 6)", x.told(0, 6), 127);
        DUE.is("count(10)", x.count(10), 0);
    }

    private static void read() {
        DUE.promise(16);
        BudgetHouse x = new BudgetHouse();
        x.member(0, 6);
        x.member(0, 0);
        x.paper(0, 0, 0);
        x.paper(1, 0, 0);
        DUE.is("read(2, 0)", x.read(2, 0), BAD);
        DUE.is("read(-1, 0)", x.read(-1, 0), BAD);
        DUE.is("read(0, 2)", x.read(0, 2), BAD);
        DUE.is("read(0, -1)", x.read(0, -1), BAD);
        DUE.is("read(0, 0)", x.read(0, 0), 0);
        x.print(0, 0, 0);
        DUE.is("read(0, 0): another tongue", x.read(0, 0), 0);
        x.print(0, 2, 1);
        DUE.is("read(0, 0): on its way", x.read(0, 0), 0);
        x.run(1);
        DUE.is("read(0, 0)", x.read(0, 0), 1);
        DUE.is("read(0, 1)", x.read(0, 1), 0);
        DUE.is("read(1, 0)", x.read(1, 0), 0);
    }

    private static void would() {
        DUE.promise(17);
        BudgetHouse x = new BudgetHouse();
        int[] parties = {0, 1, 2, 3, 0, 0, 1};
        for (int party : parties) {
            x.member(party, 1);
        }
        x.member(0, 2);
        x.paper(0, 0, 0);
        x.paper(1, 0, 9);
        x.paper(4, 1, 9);
        x.paper(5, 1, 9);
        x.paper(6, 1, 1);
        x.paper(7, 1, 0);
        DUE.is("would(6, 0)", x.would(6, 0), BAD);
        DUE.is("would(-1, 0)", x.would(-1, 0), BAD);
        DUE.is("would(1, 4)", x.would(1, 4), BAD);
        DUE.is("would(1, -1)", x.would(1, -1), BAD);
        DUE.is("would(0, 4): bad comes first", x.would(0, 4), BAD);
        for (int p : new int[] {0, 3, 4, 5}) {
            DUE.is("would(" + p + ", 0)", x.would(p, 0), KIND);
        }
        x.print(2, 0, 0);
        x.stance(0, 2, 1);
        x.stance(1, 2, -1);
        x.go(5, 0);
        DUE.is("would(2, 0) of a rider", x.would(2, 0), 2);
        DUE.is("would(2, 1) of a rider", x.would(2, 1), 2);
        DUE.is("would(2, 2) of a rider", x.would(2, 2), 7);
        DUE.is("would(2, 3): a tie is lost", x.would(2, 3), 0);
        x.go(5, 1);
        DUE.is("would(2, 3)", x.would(2, 3), 1);
        x.pair(0, 5, 50);
        DUE.is("would(2, 0) with a pair", x.would(2, 0), 1);
        DUE.is("would(2, 2) with a pair", x.would(2, 2), 6);
        wouldByRule(x);
    }

    private static void wouldByRule(BudgetHouse x) {
        Tapes.text(x, "pass y*100+n*10+p = 126 & k = 4", 0);
        DUE.is("would(2, 3) by a rule", x.would(2, 3), 1);
        DUE.is("would(1, 3) by a rule", x.would(1, 3), 0);
        Tapes.text(x, "may 0", 0);
        DUE.is("would(2, 3): what may be put counts nothing", x.would(2, 3), 1);
    }

    private static void deals() {
        DUE.promise(17);
        BudgetHouse x = new BudgetHouse();
        x.member(3, 1);
        x.member(5, 1);
        x.paper(1, 0, 5);
        x.paper(1, 0, 5);
        x.paper(6, 35, 0);
        favour(x, 0, 0);
        x.stance(3, 0, -1);
        x.stance(5, 0, -1);
        DUE.is("would(0, 0): the first of the deal", x.would(0, 0), 1);
        DUE.is("would(0, 1): the second votes as it stands", x.would(0, 1), 1);
        DUE.is("would(1, 0): another paper", x.would(1, 0), 0);
        DUE.promise(18);
        DUE.is("put(0)", x.put(0), 0);
        DUE.is("told(2, 3): the deal is lost with its paper", x.told(2, 3), LOST);
        DUE.is("a deal for a paper that is lost", x.paper(6, 53, 0), 3);
        DUE.is("would(0, 0): an open deal binds", x.would(0, 0), 1);
        x.paper(6, 35, 1);
        x.paper(6, 53, 1);
        DUE.is("put(1)", x.put(1), 1);
        states(x, "of deals", LOST, PASSED, LOST, LOST, PASSED, PASSED);
        DUE.is("would(1, 0): a deal that is not open binds nobody", x.would(1, 0), 0);
        lastParties();
    }

    private static void lastParties() {
        DUE.promise(17);
        BudgetHouse x = new BudgetHouse();
        x.member(8, 64);
        x.member(7, 64);
        x.paper(1, 0, 5);
        x.print(0, 6, 0);
        x.stance(8, 0, 1);
        x.stance(7, 0, -1);
        DUE.is("would(0, 0) of party 8", x.would(0, 0), 1);
        DUE.is("would(0, 1) of party 7", x.would(0, 1), 1);
        x.stance(8, 0, -1);
        x.paper(6, 87, 0);
        DUE.is("would(0, 0): party 8 is bound", x.would(0, 0), 1);
        x.paper(6, 78, 0);
        DUE.is("would(0, 0): both are bound", x.would(0, 0), 2);
        DUE.is("would(0, 1): both are bound", x.would(0, 1), 0);
        for (int party = 0; party < 7; party++) {
            x.member(party, 64);
        }
        DUE.is("would(0, 2)", x.would(0, 2), 9);
        DUE.is("would(0, 0): nobody else is bound", x.would(0, 0), 2);
    }

    private static void put() {
        DUE.promise(18);
        BudgetHouse x = house();
        x.paper(0, 0, 0);
        x.paper(1, 0, 9990);
        x.paper(2, 1, 20);
        x.paper(2, 1, -9999);
        x.paper(2, 1, 7);
        x.paper(4, 1, 9);
        x.paper(5, 1, 9);
        x.paper(6, 1, 1);
        x.paper(7, 1, 0);
        DUE.is("put(9)", x.put(9), BAD);
        DUE.is("put(-1)", x.put(-1), BAD);
        for (int p : new int[] {0, 5, 6, 7, 8}) {
            DUE.is("put(" + p + ")", x.put(p), KIND);
        }
        DUE.is("put(2)", pass(x, 2), 1);
        DUE.is("told(1, 2) is held", x.told(1, 2), 9999);
        DUE.is("told(2, 2)", x.told(2, 2), 20);
        DUE.is("put(2) again", x.put(2), NO);
        DUE.is("put(3)", pass(x, 3), 1);
        DUE.is("told(1, 2) is held", x.told(1, 2), 0);
        DUE.is("put(4)", lose(x, 4), 0);
        DUE.is("told(1, 2)", x.told(1, 2), 0);
        DUE.is("told(4, 3)", x.told(4, 3), LOST);
        x.paper(2, 1, 5);
        pass(x, 9);
        DUE.is("told(1, 2): what it was is not known", x.told(1, 2), 5);
        mayBePut();
    }

    private static void mayBePut() {
        BudgetHouse x = house();
        x.paper(1, 0, 5);
        x.paper(2, 0, 5);
        x.paper(1, 0, 5);
        favour(x, 1, 1);
        favour(x, 2, 1);
        Tapes.text(x, "may k = 1", 0);
        DUE.is("put(1) against the rule", x.put(1), NO);
        DUE.is("told(1, 9) behind a put that is refused", x.told(1, 9), NONE);
        DUE.is("is(0, 5) behind a put that is refused", x.is(0, 5), 0);
        DUE.is("put(2) by the rule", x.put(2), 1);
        Tapes.text(x, "may h = 2 & c = 5 & k = 2", 1);
        x.run(124);
        DUE.is("put(1) too early", x.put(1), NO);
        x.run(1);
        DUE.is("put(0) against the later rule", x.put(0), NO);
        DUE.is("put(1)", x.put(1), 1);
        x.hung(0, 1, 1, 1);
        favour(x, 3, 1);
        DUE.is("put(3): a hung one is of kind 3", x.put(3), NO);
        Tapes.text(x, "may k = 3", 2);
        DUE.is("put(3) by the rule", x.put(3), 1);
    }

    private static void putLines() {
        DUE.promise(18);
        BudgetHouse x = house();
        x.paper(1, 0, 5);
        x.paper(1, 0, 5);
        x.paper(2, 0, 1);
        x.paper(2, 1, 1);
        x.paper(4, 0, 1);
        x.paper(4, 1, 1);
        x.hung(0, 1, 3, 0);
        x.hung(1, 1, 2, 1);
        x.hung(1, 1, 7, 1);
        x.hung(1, 1, 2, 0);
        x.paper(6, 12, 4);
        x.paper(6, 12, 5);
        x.paper(6, 12, 8);
        DUE.is("put(0)", lose(x, 0), 0);
        states(x, "as a line is lost", LOST, OPEN, FALLEN, OPEN, FALLEN, OPEN, FALLEN, FALLEN, FALLEN, OPEN, LOST, OPEN,
            LOST);
        DUE.is("put(2): fallen", x.put(2), NO);
        DUE.is("put(1)", pass(x, 1), 1);
        states(x, "as a line passes", LOST, PASSED, FALLEN, OPEN, FALLEN, PASSED, FALLEN, FALLEN, FALLEN, OPEN, LOST,
            PASSED, LOST);
        DUE.is("put(3): its line is not open", x.put(3), NO);
        DUE.is("a change to a line that is lost", x.paper(2, 0, 1), 13);
        DUE.is("put(13)", x.put(13), NO);
        x.paper(4, 1, 1);
        x.paper(1, 0, 0);
        pass(x, 15);
        DUE.is("told(14, 3): a rider that came late stays", x.told(14, 3), OPEN);
    }

    private static void putHung() {
        DUE.promise(18);
        BudgetHouse x = house();
        x.paper(1, 0, 50);
        x.paper(2, 0, 1);
        x.hung(0, 2, 1, 0);
        x.hung(0, 3, 1, 1);
        x.hung(0, 4, 2, 1);
        x.hung(0, 5, 4, 1);
        x.hung(0, 6, 2, 0);
        DUE.is("put(3): what it comes with is open", x.put(3), NO);
        DUE.is("put(1)", pass(x, 1), 1);
        states(x, "behind put(1)", OPEN, PASSED, FALLEN, OPEN, FALLEN, FALLEN, OPEN);
        DUE.is("put(3)", pass(x, 3), 1);
        DUE.is("told(0, 2)", x.told(0, 2), 54);
        DUE.is("hung(0, 7, 1, 0) on one that passed before", x.hung(0, 7, 1, 0), 7);
        DUE.is("told(7, 3)", x.told(7, 3), OPEN);
        x.hung(0, 8, 1, 0);
        DUE.is("put(7): it may be put", pass(x, 7), 1);
        DUE.is("told(8, 3): passed before, too", x.told(8, 3), FALLEN);
        DUE.is("hung(0, 9, 6, 0)", x.hung(0, 9, 6, 0), 9);
        DUE.is("put(9): mode 0 hangs on an open one", lose(x, 9), 0);
        x.hung(0, 9, 9, 0);
        x.hung(0, 9, 9, 1);
        lose(x, 6);
        DUE.is("told(10, 3): mode 0 on a lost one", x.told(10, 3), OPEN);
        DUE.is("told(11, 3): mode 1 on a lost one", x.told(11, 3), FALLEN);
    }

    private static void rule() {
        DUE.promise(19);
        BudgetHouse x = house();
        x.paper(1, 0, 50);
        x.paper(1, 0, 50);
        x.paper(2, 0, 1);
        x.paper(2, 0, 2);
        x.paper(2, 0, 4);
        x.paper(4, 0, 0);
        x.paper(7, 0, 0);
        x.paper(7, 0, 0);
        x.hung(1, 1, 2, 1);
        x.hung(1, 1, 2, 0);
        x.hung(0, 1, 3, 0);
        x.paper(4, 1, 0);
        x.paper(2, 1, 1);
        DUE.is("rule(13)", x.rule(13), BAD);
        DUE.is("rule(-1)", x.rule(-1), BAD);
        DUE.is("rule(0)", x.rule(0), KIND);
        DUE.is("rule(5)", x.rule(5), KIND);
        DUE.is("rule(6): its line is open", x.rule(6), NO);
        pass(x, 2);
        lose(x, 3);
        pass(x, 12);
        pass(x, 0);
        DUE.is("told(5, 3)", x.told(5, 3), PASSED);
        x.paper(4, 0, 0);
        x.paper(6, 12, 4);
        x.paper(6, 12, 8);
        states(x, "ahead of rule(6)", PASSED, OPEN, PASSED, LOST, OPEN, PASSED, OPEN, OPEN, OPEN, FALLEN, OPEN, OPEN,
            PASSED, OPEN, OPEN, OPEN);
        Tapes.text(x, "may 0", 0);
        DUE.is("rule(6)", x.rule(6), 4);
        states(x, "behind rule(6)", VOID, OPEN, VOID, LOST, OPEN, VOID, PASSED, OPEN, FALLEN, FALLEN, OPEN, OPEN, PASSED,
            VOID, OPEN, LOST);
        DUE.is("told(0, 2): the sum stays", x.told(0, 2), 51);
        DUE.is("rule(6) again", x.rule(6), NO);
        DUE.is("rule(7): its line is void", x.rule(7), NO);
    }

    private static void mend() {
        DUE.promise(20);
        BudgetHouse x = house();
        x.paper(1, 0, 50);
        x.paper(2, 0, 1);
        x.paper(7, 0, 0);
        x.paper(7, 0, 0);
        x.paper(4, 0, 1);
        x.paper(2, 0, 3);
        DUE.is("mend(6)", x.mend(6), BAD);
        DUE.is("mend(-1)", x.mend(-1), BAD);
        DUE.is("mend(1): a change is none", x.mend(1), KIND);
        DUE.is("mend(2)", x.mend(2), KIND);
        DUE.is("mend(0): open", x.mend(0), NO);
        pass(x, 1);
        pass(x, 0);
        DUE.is("mend(0): passed", x.mend(0), NO);
        DUE.is("rule(2)", x.rule(2), 3);
        x.paper(4, 0, 1);
        DUE.is("mend(0)", x.mend(0), 1);
        states(x, "behind mend(0)", OPEN, VOID, PASSED, OPEN, VOID, OPEN, OPEN);
        DUE.is("mend(0) again", x.mend(0), NO);
        DUE.is("put(5)", pass(x, 5), 1);
        DUE.is("put(0)", x.put(0), 1);
        states(x, "behind put(0)", PASSED, VOID, PASSED, OPEN, VOID, PASSED, PASSED);
        DUE.is("rule(3): void ones are not counted again", x.rule(3), 3);
    }

    private static void falls() {
        DUE.promise(21);
        BudgetHouse x = house();
        x.paper(1, 0, 50);
        x.paper(1, 0, 50);
        x.paper(2, 0, 1);
        x.hung(1, 1, 2, 0);
        x.hung(1, 1, 3, 1);
        x.hung(1, 1, 4, 1);
        x.hung(1, 1, 4, 0);
        x.hung(1, 1, 2, 1);
        DUE.is("falls(8)", x.falls(8), BAD);
        DUE.is("falls(-1)", x.falls(-1), BAD);
        DUE.is("falls(0)", x.falls(0), KIND);
        DUE.is("falls(2)", x.falls(2), 3);
        DUE.is("falls(3)", x.falls(3), 0);
        DUE.is("falls(4)", x.falls(4), 1);
        DUE.is("falls(7)", x.falls(7), 0);
        states(x, "behind falls()", OPEN, OPEN, OPEN, OPEN, OPEN, OPEN, OPEN, OPEN);
        pass(x, 2);
        DUE.is("falls(2): not open", x.falls(2), NO);
        x.hung(1, 1, 2, 0);
        x.hung(1, 1, 8, 1);
        DUE.is("falls(7): those that would be without it, too", x.falls(7), 2);
        DUE.is("falls(8): it passes itself", x.falls(8), 0);
        DUE.is("falls(9)", x.falls(9), 1);
    }

    private static void never() {
        DUE.promise(22);
        BudgetHouse x = house();
        x.paper(1, 0, 50);
        x.paper(1, 0, 50);
        x.paper(2, 0, 1);
        x.hung(1, 1, 2, 1);
        x.hung(1, 1, 3, 1);
        x.hung(1, 1, 3, 0);
        x.paper(2, 1, 1);
        DUE.is("never(7)", x.never(7), BAD);
        DUE.is("never(-1)", x.never(-1), BAD);
        DUE.is("never(0)", x.never(0), KIND);
        for (int p = 2; p < 7; p++) {
            DUE.is("never(" + p + ")", x.never(p), 0);
        }
        pass(x, 0);
        int[] want = {1, 1, 1, 0, 0};
        for (int p = 2; p < 7; p++) {
            DUE.is("never(" + p + ") with line 0 passed", x.never(p), want[p - 2]);
        }
        pass(x, 6);
        DUE.is("never(6): not open", x.never(6), NO);
        x.hung(1, 1, 6, 1);
        DUE.is("never(7): comes with one that passed", x.never(7), 0);
        x.paper(2, 1, 1);
        lose(x, 8);
        x.hung(1, 1, 8, 1);
        x.hung(1, 1, 8, 0);
        x.hung(1, 1, 9, 1);
        DUE.is("never(9): comes with a lost one", x.never(9), 1);
        DUE.is("never(10): mode 0", x.never(10), 0);
        DUE.is("never(11)", x.never(11), 1);
        neverOnVoid();
    }

    private static void neverOnVoid() {
        BudgetHouse x = house();
        x.paper(1, 0, 50);
        x.paper(1, 0, 50);
        x.paper(2, 0, 1);
        x.paper(7, 0, 0);
        x.hung(1, 1, 2, 0);
        pass(x, 2);
        pass(x, 0);
        x.hung(1, 1, 2, 1);
        DUE.is("never(5)", x.never(5), 0);
        x.rule(3);
        x.hung(1, 1, 2, 1);
        x.hung(1, 1, 4, 1);
        x.hung(1, 1, 2, 0);
        DUE.is("told(5, 3)", x.told(5, 3), FALLEN);
        DUE.is("never(6): comes with a void one", x.never(6), 1);
        DUE.is("never(7): comes with a fallen one", x.never(7), 1);
        DUE.is("never(8): mode 0 on a void one", x.never(8), 0);
    }

    private static void row(BudgetHouse x, String by, int... want) {
        for (int i = 0; i < want.length; i++) {
            DUE.is("row(" + i + ") by " + by, x.row(i), want[i]);
        }
        DUE.is("row(" + want.length + ") by " + by, x.row(want.length), NONE);
    }

    private static void row() {
        DUE.promise(23);
        BudgetHouse x = house();
        x.paper(1, 21, 50);
        x.paper(1, 13, 50);
        x.paper(2, 0, 5);
        x.paper(2, 1, 9);
        x.hung(0, 9, 2, 0);
        x.paper(4, 1, 9);
        x.paper(2, 0, -9);
        DUE.is("row(-1)", x.row(-1), BAD);
        row(x, "no rule", 2, 3, 4, 6);
        byRule(x, "order v", 3, 4, 2, 6);
        byRule(x, "order 0-v", 6, 2, 3, 4);
        byRule(x, "order k", 4, 2, 3, 6);
        byRule(x, "order o", 2, 4, 6, 3);
        byRule(x, "order l", 3, 2, 4, 6);
        byRule(x, "order 9999*9999*21+v*5500*1000", 2, 6, 3, 4);
        byRule(x, "order v<9", 2, 6, 3, 4);
        pass(x, 2);
        row(x, "v<9 behind put(2)", 6, 3);
        DUE.is("row(2147483647)", x.row(Integer.MAX_VALUE), NONE);
        DUE.is("row(-2147483648)", x.row(Integer.MIN_VALUE), BAD);
    }

    private static void byRule(BudgetHouse x, String rule, int... want) {
        DUE.holds(rule + " is read", Tapes.text(x, rule, 0) >= 0);
        row(x, rule, want);
    }

    private static void line() {
        DUE.promise(24);
        BudgetHouse x = house();
        x.paper(1, 0, 50);
        x.paper(1, 0, 60);
        x.paper(5, 0, 20050);
        x.paper(5, 0, 30051);
        x.paper(5, 0, 10051);
        x.paper(5, 1, 61);
        x.paper(2, 0, 1);
        x.hung(0, 2, 6, 0);
        x.paper(4, 0, 1);
        x.paper(4, 1, 1);
        DUE.is("line(10, 0)", x.line(10, 0), BAD);
        DUE.is("line(-1, 0)", x.line(-1, 0), BAD);
        DUE.is("line(0, 4)", x.line(0, 4), BAD);
        DUE.is("line(0, -1)", x.line(0, -1), BAD);
        DUE.is("line(6, 0)", x.line(6, 0), KIND);
        DUE.is("line(6, 4): bad comes first", x.line(6, 4), BAD);
        DUE.is("line(8, 0)", x.line(8, 0), KIND);
        DUE.is("line(0, 0)", x.line(0, 0), 50);
        DUE.is("line(0, 1)", x.line(0, 1), 2);
        DUE.is("line(0, 2)", x.line(0, 2), 2);
        DUE.is("line(0, 3)", x.line(0, 3), 1);
        DUE.is("line(1, 1)", x.line(1, 1), 1);
        DUE.is("line(1, 2)", x.line(1, 2), 0);
        bindingSum(x);
        pass(x, 6);
        DUE.is("line(0, 1) behind put(6)", x.line(0, 1), 2);
        DUE.is("line(0, 2) behind put(6)", x.line(0, 2), 0);
        lose(x, 0);
        DUE.is("line(0, 3), a rider fallen", x.line(0, 3), 1);
    }

    private static void bindingSum(BudgetHouse x) {
        Tapes.text(x, "bind s", 0);
        DUE.is("line(0, 0) by s", x.line(0, 0), 51);
        DUE.is("line(1, 0) by s", x.line(1, 0), 61);
        Tapes.text(x, "bind 0-s", 0);
        DUE.is("line(0, 0) by 0-s", x.line(0, 0), 50);
        Tapes.text(x, "bind t=0|t=2|t=1", 0);
        DUE.is("line(0, 0): its own first", x.line(0, 0), 50);
        Tapes.text(x, "bind t/2", 0);
        DUE.is("line(0, 0): the least number of two", x.line(0, 0), 50);
        Tapes.text(x, "bind t=3", 0);
        DUE.is("line(0, 0) by tongue 3", x.line(0, 0), 51);
        Tapes.text(x, "bind 0-(t-2)*(t-2)", 0);
        x.paper(5, 0, 20099);
        DUE.is("line(0, 0): the least number of like ones", x.line(0, 0), 50);
        DUE.is("line(0, 1)", x.line(0, 1), 3);
        Tapes.text(x, "bind t", 1);
        DUE.is("line(0, 0): not in force yet", x.line(0, 0), 50);
        x.run(60);
        DUE.is("line(0, 0): in force", x.line(0, 0), 51);
    }
}
