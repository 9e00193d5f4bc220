/** Promises 30 to 37: incomes, balance, the break, books. */
public final class MoneyTest {
    private static final int BAD = BudgetHouse.BAD, FULL = BudgetHouse.FULL, NONE = BudgetHouse.NONE,
        NOTHING = BudgetHouse.NOTHING, KIND = BudgetHouse.KIND, INDEX = BudgetHouse.INDEX, SIZE = BudgetHouse.SIZE;
    private static final Due DUE = new Due("MoneyTest");

    public static void main(String[] args) {
        income();
        balance();
        first();
        firstByState();
        book();
        note();
        looks();
        copy();
        span();
        DUE.end();
    }

    private static void income() {
        DUE.promise(30);
        BudgetHouse x = new BudgetHouse();
        DUE.is("income(-1, 5)", x.income(-1, 5), BAD);
        DUE.is("income(5, 4)", x.income(5, 4), BAD);
        DUE.is("income(0, 10000)", x.income(0, 10000), BAD);
        DUE.is("income(10000, 10000)", x.income(10000, 10000), BAD);
        DUE.is("income(5, 5)", x.income(5, 5), 0);
        DUE.is("income(9999, 9999)", x.income(9999, 9999), 1);
        DUE.is("income(0, 9999)", x.income(0, 9999), 2);
        for (int i = 3; i < 8; i++) {
            DUE.is("income(1, 2)", x.income(1, 2), i);
        }
        DUE.is("income behind 8", x.income(0, 0), FULL);
        DUE.is("a bad income behind 8", x.income(1, 0), BAD);
        DUE.is("count(11)", x.count(11), 8);
        DUE.is("balance(0)", x.balance(0), 10009);
        DUE.is("balance(1)", x.balance(1), 20013);
    }

    private static BudgetHouse house() {
        BudgetHouse x = new BudgetHouse();
        x.member(0, 1);
        return x;
    }

    private static void vote(BudgetHouse x, int paper, int v) {
        x.print(paper, 0, 0);
        x.stance(0, paper, v);
        x.put(paper);
    }

    private static void balances(BudgetHouse x, String when, int... want) {
        for (int what = 0; what < 14; what++) {
            DUE.is("balance(" + what + ") " + when, x.balance(what), want[what]);
        }
    }

    private static void balance() {
        DUE.promise(31);
        BudgetHouse x = house();
        DUE.is("balance(-1)", x.balance(-1), BAD);
        DUE.is("balance(14)", x.balance(14), BAD);
        x.income(10, 20);
        x.income(100, 300);
        x.paper(1, 0, 1);
        x.paper(1, 13, 2);
        x.paper(1, 70, 4);
        x.paper(1, 72, 8);
        x.paper(1, 11, 16);
        x.paper(2, 0, 500);
        x.paper(4, 0, 500);
        x.paper(5, 0, 500);
        x.paper(7, 1, 0);
        balances(x, "all open", 79, 289, 1, 18, 0, 0, 0, 0, 0, 12, 5, 16, 8, 2);
        vote(x, 1, 1);
        vote(x, 2, -1);
        balances(x, "one passed, one lost", 83, 293, 1, 18, 0, 0, 0, 0, 0, 8, 1, 16, 8, 2);
        x.rule(8);
        balances(x, "one void, one lost", 85, 295, 1, 16, 0, 0, 0, 0, 0, 8, 1, 16, 8, 0);
        x.mend(1);
        vote(x, 5, 1);
        balances(x, "mended, a change passed", -417, -207, 501, 18, 0, 0, 0, 0, 0, 8, 501, 16, 8, 2);
    }

    private static void first() {
        DUE.promise(32);
        BudgetHouse x = house();
        x.income(0, 100);
        x.paper(1, 0, 60);
        x.paper(1, 0, 30);
        DUE.is("first(): no changes", x.first(), NONE);
        x.paper(2, 0, 10);
        DUE.is("first(): balance 0 is not below 0", x.first(), NONE);
        x.paper(2, 1, -50);
        x.paper(2, 1, 30);
        DUE.is("first(): balance 0 behind all", x.first(), NONE);
        x.paper(2, 1, 1);
        DUE.is("first(): the sum was held at 0", x.first(), 5);
        x.hung(0, -1, 2, 0);
        x.hung(0, 50, 2, 1);
        Tapes.text(x, "order v=10", 0);
        DUE.is("first() by order", x.first(), 5);
        Tapes.text(x, "order 100-v*v", 0);
        DUE.is("first() by order", x.first(), 4);
        Tapes.text(x, "order k", 0);
        DUE.is("first(): what it hangs on is not looked at", x.first(), 7);
        DUE.is("told(1, 2)", x.told(1, 2), 30);
        DUE.is("told(4, 3)", x.told(4, 3), 0);
        ahead();
    }

    private static void ahead() {
        BudgetHouse x = house();
        x.paper(1, 0, 60);
        DUE.is("first(): below 0, but no change", x.first(), NONE);
        x.paper(2, 0, -60);
        DUE.is("first(): it is mended behind", x.first(), NONE);
        x.paper(2, 0, 0);
        x.paper(2, 0, 9999);
        x.paper(2, 0, 9999);
        DUE.is("first()", x.first(), 3);
        Tapes.text(x, "order 0-v", 0);
        x.paper(2, 0, -10);
        DUE.is("first()", x.first(), 3);
        Tapes.text(x, "order v>0-60", 0);
        DUE.is("first(): below 0 ahead of it, too", x.first(), 2);
        x.income(9999, 9999);
        DUE.is("first(): the sum is held at 9999", x.first(), NONE);
    }

    private static void firstByState() {
        DUE.promise(32);
        BudgetHouse x = house();
        x.income(0, 100);
        x.paper(1, 0, 50);
        x.paper(1, 0, 50);
        x.paper(2, 0, 1);
        x.paper(7, 0, 0);
        DUE.is("first(), the line open", x.first(), 2);
        vote(x, 0, 1);
        DUE.is("first(), the line passed", x.first(), 2);
        x.rule(3);
        DUE.is("first(), the line void", x.first(), NONE);
        x.paper(2, 1, 50);
        x.paper(2, 1, 1);
        DUE.is("first()", x.first(), 5);
        x.mend(0);
        DUE.is("first(), the line mended", x.first(), 2);
        vote(x, 0, -1);
        DUE.is("first(), the line lost", x.first(), 5);
        x.paper(2, 0, 90);
        DUE.is("first(), the line lost", x.first(), 5);
    }

    private static void book() {
        DUE.promise(33);
        BudgetHouse x = new BudgetHouse();
        DUE.is("book(-1, 0, 1)", x.book(-1, 0, 1), BAD);
        DUE.is("book(8, 0, 1)", x.book(8, 0, 1), BAD);
        DUE.is("book(0, -2, 1)", x.book(0, -2, 1), BAD);
        DUE.is("book(0, 2, 1)", x.book(0, 2, 1), BAD);
        DUE.is("book(0, 0, 21)", x.book(0, 0, 21), BAD);
        DUE.is("book(0, 1, -1)", x.book(0, 1, -1), SIZE);
        DUE.is("book(8, 1, -1): bad comes first", x.book(8, 1, -1), BAD);
        DUE.is("book(0, 0, 2147483647)", x.book(0, 0, Integer.MAX_VALUE), BAD);
        DUE.is("book(0, 0, -2147483648)", x.book(0, 0, Integer.MIN_VALUE), SIZE);
        DUE.is("looks(0, 0)", x.looks(0, 0), NOTHING);
        DUE.is("book(7, 1, 20)", x.book(7, 1, 20), 20);
        DUE.is("looks(7, 19)", x.looks(7, 19), 0);
        DUE.is("looks(7, 20)", x.looks(7, 20), INDEX);
        DUE.is("book(0, 0, 0)", x.book(0, 0, 0), 0);
        DUE.is("looks(0, 0)", x.looks(0, 0), INDEX);
        x.book(0, 0, 2);
        x.note(0, 1, 5);
        DUE.is("book(0, 0, -1)", x.book(0, 0, -1), SIZE);
        DUE.is("looks(0, 1): nothing is changed", x.looks(0, 1), 5);
        DUE.is("book(0, 0, 3)", x.book(0, 0, 3), 3);
        DUE.is("looks(0, 1): all 0", x.looks(0, 1), 0);
        DUE.is("book(0, -1, 21)", x.book(0, -1, 21), 0);
        DUE.is("looks(0, 0)", x.looks(0, 0), NOTHING);
        DUE.is("book(1, -1, -5)", x.book(1, -1, -5), 0);
    }

    private static void note() {
        DUE.promise(34);
        BudgetHouse x = new BudgetHouse();
        DUE.is("note(0, 0, 1)", x.note(0, 0, 1), NOTHING);
        DUE.is("note(-1, 0, 1)", x.note(-1, 0, 1), BAD);
        DUE.is("note(8, 0, 1)", x.note(8, 0, 1), BAD);
        x.book(0, 0, 2);
        x.book(1, 1, 2);
        DUE.is("note(0, 2, 1)", x.note(0, 2, 1), INDEX);
        DUE.is("note(0, -1, 1)", x.note(0, -1, 1), INDEX);
        DUE.is("note(0, 2, NONE): index comes first", x.note(0, 2, NONE), INDEX);
        DUE.is("note(1, 2, 100001): index comes first", x.note(1, 2, 100001), INDEX);
        DUE.is("note(0, 0, NONE)", x.note(0, 0, NONE), KIND);
        DUE.is("note(0, 0, -2147483648)", x.note(0, 0, Integer.MIN_VALUE), 1);
        DUE.is("looks(0, 0)", x.looks(0, 0), Integer.MIN_VALUE);
        DUE.is("note(0, 1, BAD)", x.note(0, 1, BAD), 1);
        DUE.is("looks(0, 1)", x.looks(0, 1), BAD);
        DUE.is("note(1, 0, 100000)", x.note(1, 0, 100000), 1);
        DUE.is("note(1, 1, -100000)", x.note(1, 1, -100000), 1);
        DUE.is("note(1, 0, 100001)", x.note(1, 0, 100001), BAD);
        DUE.is("note(1, 0, -100001)", x.note(1, 0, -100001), BAD);
        DUE.is("looks(1, 0)", x.looks(1, 0), 100000);
        DUE.is("looks(1, 1)", x.looks(1, 1), -100000);
        DUE.is("note(1, 1, NONE)", x.note(1, 1, NONE), 1);
        DUE.is("looks(1, 1)", x.looks(1, 1), 100000);
    }

    private static void looks() {
        DUE.promise(35);
        BudgetHouse x = new BudgetHouse();
        DUE.is("looks(-1, 0)", x.looks(-1, 0), BAD);
        DUE.is("looks(8, 0)", x.looks(8, 0), BAD);
        DUE.is("looks(3, -1)", x.looks(3, -1), NOTHING);
        x.book(3, 1, 5);
        DUE.is("looks(3, -1)", x.looks(3, -1), INDEX);
        DUE.is("looks(3, 5)", x.looks(3, 5), INDEX);
        x.note(3, 0, NONE);
        x.note(3, 1, NONE);
        x.note(3, 2, 7);
        x.note(3, 3, NONE);
        x.note(3, 4, NONE);
        int[] want = {KIND, KIND, 7, 7, 7};
        for (int y = 0; y < 5; y++) {
            DUE.is("looks(3, " + y + ")", x.looks(3, y), want[y]);
        }
        x.note(3, 2, NONE);
        DUE.is("looks(3, 4)", x.looks(3, 4), KIND);
        x.note(3, 0, -3);
        DUE.is("looks(3, 4)", x.looks(3, 4), -3);
    }

    private static void years(BudgetHouse x, int office, int... want) {
        for (int y = 0; y < want.length; y++) {
            DUE.is("looks(" + office + ", " + y + ")", x.looks(office, y), want[y]);
        }
    }

    private static void copy() {
        DUE.promise(36);
        BudgetHouse x = new BudgetHouse();
        x.book(0, 0, 5);
        x.book(1, 0, 3);
        x.book(2, 1, 3);
        for (int y = 0; y < 5; y++) {
            x.note(0, y, y + 1);
        }
        DUE.is("copy(8, 0, 0, 0, 1)", x.copy(8, 0, 0, 0, 1), BAD);
        DUE.is("copy(0, 0, -1, 0, 1)", x.copy(0, 0, -1, 0, 1), BAD);
        DUE.is("copy(3, 0, 8, 0, 1): bad comes first", x.copy(3, 0, 8, 0, 1), BAD);
        DUE.is("copy(3, 0, 0, 0, 1)", x.copy(3, 0, 0, 0, 1), NOTHING);
        DUE.is("copy(0, 0, 3, 0, 1)", x.copy(0, 0, 3, 0, 1), NOTHING);
        DUE.is("copy(0, 9, 2, 9, 1): kind comes first", x.copy(0, 9, 2, 9, 1), KIND);
        DUE.is("copy(2, 0, 0, 0, 0)", x.copy(2, 0, 0, 0, 0), KIND);
        int[][] out = {{-1, 0, 1}, {0, -1, 1}, {0, 0, -1}, {3, 0, 3}, {0, 1, 3}, {6, 0, 0}, {0, 4, 0},
            {0, 0, Integer.MAX_VALUE}, {1, 1, Integer.MAX_VALUE}, {Integer.MAX_VALUE, 0, 1}, {0, 0, Integer.MIN_VALUE},
            {Integer.MAX_VALUE, Integer.MAX_VALUE, Integer.MAX_VALUE}, {Integer.MIN_VALUE, 0, 0}};
        for (int[] o : out) {
            DUE.is("copy(0, " + o[0] + ", 1, " + o[1] + ", " + o[2] + ")", x.copy(0, o[0], 1, o[1], o[2]), INDEX);
        }
        DUE.is("copy(0, 5, 1, 3, 0): at the end", x.copy(0, 5, 1, 3, 0), 0);
        DUE.is("copy(0, 2, 1, 1, 2)", x.copy(0, 2, 1, 1, 2), 2);
        years(x, 1, 0, 3, 4, INDEX);
        DUE.is("copy(0, 0, 0, 1, 4): over itself", x.copy(0, 0, 0, 1, 4), 4);
        years(x, 0, 1, 1, 2, 3, 4, INDEX);
        DUE.is("copy(0, 2, 0, 0, 3): over itself", x.copy(0, 2, 0, 0, 3), 3);
        years(x, 0, 2, 3, 4, 3, 4, INDEX);
        noNumbersAreCopied();
    }

    private static void noNumbersAreCopied() {
        BudgetHouse x = new BudgetHouse();
        x.book(0, 1, 3);
        x.book(1, 1, 3);
        x.note(0, 0, 9);
        x.note(0, 1, NONE);
        x.note(1, 0, 4);
        DUE.is("copy(0, 1, 1, 1, 2)", x.copy(0, 1, 1, 1, 2), 2);
        years(x, 1, 4, 4, 0);
        x.book(0, -1, 0);
        years(x, 1, 4, 4, 0);
    }

    private static void spans(BudgetHouse x, int year, int... want) {
        for (int what = 0; what < 3; what++) {
            DUE.is("span(" + year + ", " + what + ")", x.span(year, what), want[what]);
        }
    }

    private static void span() {
        DUE.promise(37);
        BudgetHouse x = new BudgetHouse();
        DUE.is("span(-1, 0)", x.span(-1, 0), BAD);
        DUE.is("span(0, 3)", x.span(0, 3), BAD);
        DUE.is("span(0, -1)", x.span(0, -1), BAD);
        DUE.is("span(-1, 1): bad comes first", x.span(-1, 1), BAD);
        spans(x, 0, 8, NONE, NONE);
        spans(x, Integer.MAX_VALUE, 8, NONE, NONE);
        x.book(7, 0, 2);
        x.note(7, 0, 50);
        spans(x, 0, 7, 50, 50);
        x.book(0, 1, 3);
        x.note(0, 0, NONE);
        spans(x, 0, 7, 50, 50);
        x.note(0, 1, -3);
        x.note(0, 2, NONE);
        spans(x, 1, 6, -3, 0);
        spans(x, 2, 7, -3, -3);
        x.book(3, 0, 20);
        x.note(3, 0, 70);
        spans(x, 0, 6, 50, 70);
        spans(x, 19, 7, 0, 0);
        spans(x, 20, 8, NONE, NONE);
        x.note(7, 1, Integer.MIN_VALUE);
        spans(x, 1, 5, Integer.MIN_VALUE, 0);
    }
}
