/** The bounds that "Terms", 4, names: INCOMES, BALANCE, THE BREAK, BOOKS, YEARS, NO NUMBER, THE SPAN. */
public final class MoneyBoundsTest {
    private static final Due DUE = new Due("MoneyBoundsTest");

    public static void main(String[] args) {
        eightIncomes();
        leastAndMost();
        balanceOfForty();
        balanceByState();
        breakAtZero();
        breakHeld();
        breakOfForty();
        breakOfAllLines();
        breakByState();
        years();
        sorts();
        ints();
        floats();
        noNumbers();
        copies();
        copiesOverItself();
        spans();
        DUE.end();
    }

    private static void sentence(String words) {
        DUE.sentence("Terms 4", words);
    }

    private static void due(BudgetHouse x, String... rows) {
        Calls.due(DUE, x, rows);
    }

    private static void eightIncomes() {
        sentence("INCOMES, 8 at most, numbered from 0");
        BudgetHouse x = new BudgetHouse();
        due(x, "balance(0) = 0", "balance(1) = 0");
        for (int i = 0; i < 8; i++) {
            DUE.is("income, the " + i + ".", x.income(1 << i, 1000 + (1 << i)), i);
            DUE.is("balance(0)", x.balance(0), (2 << i) - 1);
            DUE.is("balance(1)", x.balance(1), 1000 * (i + 1) + (2 << i) - 1);
        }
        due(x, "income(1, 1) = FULL", "count(11) = 8", "balance(0) = 255", "balance(1) = 8255");
    }

    private static void leastAndMost() {
        sentence("LEAST 0 .. 9999 and MOST LEAST .. 9999");
        due(new BudgetHouse(), "income(0, 0) = 0", "income(0, 9999) = 1", "income(9999, 9999) = 2",
            "income(9998, 9999) = 3", "income(9999, 9998) = BAD", "income(1, 0) = BAD", "income(0, 10000) = BAD",
            "income(10000, 10000) = BAD", "income(-1, 0) = BAD", "income(-1, -1) = BAD", "income(5, 5) = 4",
            "income(5, 4) = BAD", "count(11) = 5", "balance(0) = 20002", "balance(1) = 30002");
    }

    private static void balanceOfForty() {
        sentence("BALANCE at LEAST (at MOST): all INCOMES at it less SUMS of all LINES that are OPEN or PASSED");
        BudgetHouse x = new BudgetHouse();
        for (int p = 0; p < 40; p++) {
            x.paper(1, 10 * (p % 8) + p % 4, 9999);
        }
        due(x, "balance(0) = -399960", "balance(1) = -399960");
        for (int what = 2; what < 10; what++) {
            DUE.is("balance(" + what + ")", x.balance(what), 5 * 9999);
        }
        for (int what = 10; what < 14; what++) {
            DUE.is("balance(" + what + ")", x.balance(what), 10 * 9999);
        }
        for (int i = 0; i < 8; i++) {
            x.income(9998, 9999);
        }
        due(x, "balance(0) = -319976", "balance(1) = -319968", "balance(14) = BAD", "first() = NONE");
    }

    private static void balanceByState() {
        sentence("SUMS of all LINES that are OPEN or PASSED (not LOST, not VOID; MENDED again)");
        BudgetHouse x = new BudgetHouse();
        due(x, "member(0, 1) = 0", "paper(1, 73, 7) = 0", "paper(4, 0, 500) = 1", "paper(5, 0, 500) = 2",
            "paper(2, 0, 500) = 3", "paper(7, 0, 0) = 4", "balance(0) = -7", "balance(9) = 7", "balance(13) = 7",
            "balance(8) = 0", "balance(12) = 0", "print(0, 0, 0) = 0", "stance(0, 0, 1) = 0", "put(0) = 1",
            "balance(0) = -7", "balance(9) = 7", "rule(4) = 2", "balance(0) = 0", "balance(9) = 0", "balance(13) = 0",
            "mend(0) = 1", "balance(0) = -7", "balance(13) = 7", "stance(0, 0, -1) = 1", "put(0) = 0", "balance(0) = 0",
            "balance(1) = 0", "balance(9) = 0", "balance(13) = 0");
    }

    private static void breakAtZero() {
        sentence("the first CHANGE behind which BALANCE at MOST is below 0 (it may be ahead of it, too)");
        BudgetHouse x = new BudgetHouse();
        due(x, "paper(1, 0, 50) = 0", "first() = NONE", "income(0, 60) = 0", "paper(2, 0, 10) = 1", "first() = NONE",
            "paper(2, 0, 0) = 2", "first() = NONE", "paper(2, 0, 1) = 3", "first() = 3", "paper(2, 0, -1) = 4",
            "first() = 3", "'order 0-v' from 0 = 0", "first() = NONE", "'order v=0' from 0 = 1", "first() = 3");
        BudgetHouse y = new BudgetHouse();
        due(y, "paper(1, 0, 5) = 0", "balance(1) = -5", "first() = NONE", "paper(2, 0, 0) = 1", "first() = 1",
            "paper(2, 0, -5) = 2", "first() = 1", "'order 0-v' from 0 = 0", "first() = NONE", "paper(2, 0, -4) = 3",
            "first() = NONE", "'order v=0-4' from 0 = 1", "first() = 3");
    }

    private static void breakHeld() {
        sentence("if each were PASSED in it as it stands (SUMS held as told, what hangs ON others not looked at)");
        BudgetHouse x = new BudgetHouse();
        due(x, "income(0, 9999) = 0", "paper(1, 0, 9000) = 0", "paper(2, 0, 9999) = 1", "first() = NONE",
            "paper(2, 0, -9999) = 2", "paper(1, 0, 1) = 3", "first() = 1", "'order 0-v' from 0 = 0", "first() = 1",
            "income(1, 1) = 1", "first() = NONE", "told(0, 2) = 9000");
        BudgetHouse y = new BudgetHouse();
        due(y, "income(0, 20) = 0", "paper(1, 0, 10) = 0", "paper(2, 0, -10) = 1", "paper(2, 0, -5) = 2",
            "paper(2, 0, 20) = 3", "first() = NONE", "hung(0, 1, 1, 0) = 4", "first() = 4", "hung(0, -1, 1, 1) = 5",
            "'order k=3' from 0 = 0", "first() = NONE", "hung(0, 11, 1, 1) = 6", "first() = 6", "told(0, 2) = 10",
            "told(6, 3) = 0");
    }

    private static void breakOfForty() {
        sentence("THE BREAK of as many CHANGES as there may be");
        BudgetHouse x = new BudgetHouse();
        due(x, "income(0, 38) = 0", "paper(1, 0, 0) = 0");
        for (int p = 1; p < 40; p++) {
            x.paper(2, 0, 1);
        }
        due(x, "first() = 39", "income(0, 1) = 1", "first() = NONE");
        BudgetHouse y = new BudgetHouse();
        due(y, "income(0, 19) = 0");
        for (int p = 0; p < 20; p++) {
            y.paper(1, 0, 0);
        }
        for (int p = 20; p < 40; p++) {
            y.paper(2, p - 20, 1);
        }
        due(y, "first() = 39", "balance(1) = 19", "income(0, 1) = 1", "first() = NONE");
        BudgetHouse last = new BudgetHouse();
        for (int p = 0; p < 38; p++) {
            last.paper(0, 0, 0);
        }
        due(last, "paper(1, 73, 0) = 38", "paper(2, 38, 1) = 39", "first() = 39", "income(1, 1) = 0", "first() = NONE");
    }

    private static void breakOfAllLines() {
        sentence("BALANCE at MOST: all INCOMES at it less SUMS of all LINES (of whatever OFFICE and LAND)");
        for (int a : new int[] {0, 3, 10, 12, 70, 73}) {
            BudgetHouse x = new BudgetHouse();
            due(x, "income(0, 100) = 0", "income(0, 50) = 1", "paper(1, " + a + ", 100) = 0", "paper(1, 31, 40) = 1",
                "paper(2, 0, 10) = 2", "first() = NONE", "paper(2, 1, 1) = 3", "first() = 3", "income(1, 1) = 2",
                "first() = NONE", "paper(2, 0, 1) = 4", "first() = 4");
        }
    }

    private static void breakByState() {
        sentence("THE BREAK: a CHANGE to a LINE that is LOST or VOID makes BALANCE neither more nor less");
        BudgetHouse x = new BudgetHouse();
        due(x, "member(0, 1) = 0", "income(0, 60) = 0", "paper(1, 0, 50) = 0", "paper(2, 0, 11) = 1",
            "paper(7, 0, 0) = 2", "first() = 1", "print(0, 0, 0) = 0", "stance(0, 0, 1) = 0", "put(0) = 1",
            "first() = 1", "rule(2) = 1", "first() = NONE", "mend(0) = 1", "first() = 1", "stance(0, 0, -1) = 1",
            "put(0) = 0", "first() = NONE", "paper(2, 0, 61) = 3", "first() = NONE", "paper(1, 0, 61) = 4",
            "first() = 3");
    }

    private static void years() {
        sentence("rows of ints (sort 0) or floats (1; halves), with 0 to 20 YEARS, or MISSING (at first)");
        for (int office = 0; office < 8; office++) {
            for (int n = 0; n <= 20; n++) {
                BudgetHouse x = new BudgetHouse();
                DUE.is("looks(" + office + ", 0)", x.looks(office, 0), BudgetHouse.NOTHING);
                DUE.is("book(" + office + ", " + n % 2 + ", " + n + ")", x.book(office, n % 2, n), n);
                for (int year = 0; year < n; year++) {
                    DUE.is("looks(" + office + ", " + year + ") of " + n, x.looks(office, year), 0);
                    DUE.is("note(" + office + ", " + year + ")", x.note(office, year, 100 + year), 1);
                }
                for (int year = 0; year < n; year++) {
                    DUE.is("looks(" + office + ", " + year + ") of " + n, x.looks(office, year), 100 + year);
                    DUE.is("span(" + year + ", 0)", x.span(year, 0), 7);
                }
                DUE.is("looks(" + office + ", " + n + ") of " + n, x.looks(office, n), BudgetHouse.INDEX);
                DUE.is("looks(" + office + ", -1) of " + n, x.looks(office, -1), BudgetHouse.INDEX);
                DUE.is("note(" + office + ", " + n + ") of " + n, x.note(office, n, 5), BudgetHouse.INDEX);
                DUE.is("span(" + n + ", 0) of " + n, x.span(n, 0), 8);
                for (int other = 0; other < 8; other++) {
                    DUE.is("looks(" + other + ", 0)", x.looks(other, 0),
                        other != office ? BudgetHouse.NOTHING : n == 0 ? BudgetHouse.INDEX : 100);
                }
            }
        }
    }

    private static void sorts() {
        DUE.sentence("Promise 33", "becomes a row of n YEARS of a sort, all 0 (sort -1: MISSING, n any): n (0)");
        BudgetHouse x = new BudgetHouse();
        due(x, "book(0, 0, 20) = 20", "note(0, 0, 7) = 1", "note(0, 19, 7) = 1", "book(0, 0, 20) = 20",
            "looks(0, 0) = 0", "looks(0, 19) = 0", "note(0, 0, 7) = 1", "note(0, 19, 7) = 1", "book(0, 1, 20) = 20",
            "looks(0, 0) = 0", "looks(0, 19) = 0", "note(0, 19, NONE) = 1", "note(0, 0, NONE) = 1", "book(0, 0, 5) = 5",
            "looks(0, 0) = 0", "looks(0, 4) = 0", "looks(0, 5) = INDEX", "book(0, 0, 20) = 20", "looks(0, 19) = 0",
            "book(0, -1, 0) = 0", "looks(0, 0) = NOTHING", "book(0, -1, -1) = 0", "book(0, -1, MIN) = 0",
            "book(0, -1, MAX) = 0", "book(0, -1, 21) = 0", "looks(0, 0) = NOTHING", "book(0, 0, 0) = 0",
            "looks(0, 0) = INDEX", "span(0, 0) = 8", "book(0, 1, 1) = 1", "looks(0, 0) = 0", "span(0, 0) = 7");
        due(new BudgetHouse(), "book(7, -1, 5) = 0", "looks(7, 0) = NOTHING", "book(8, -1, 5) = BAD",
            "book(-1, -1, 5) = BAD", "book(7, 0, 20) = 20", "book(6, 0, 20) = 20", "note(7, 0, 5) = 1",
            "note(6, 19, 6) = 1", "book(6, 1, 20) = 20", "looks(7, 0) = 5", "looks(6, 19) = 0");
    }

    private static void ints() {
        DUE.sentence("Promise 34", "A YEAR of a BOOK becomes v; KIND: NONE in a row of ints");
        BudgetHouse x = new BudgetHouse();
        due(x, "book(0, 0, 2) = 2");
        for (String v : new String[] {"MIN", "MAX", "BAD", "NO", "FULL", "NOTHING", "KIND", "INDEX", "SIZE", "100001",
            "-100001", "0", "-1000000004", "-1000000006"}) {
            due(x, "note(0, 1, " + v + ") = 1", "looks(0, 1) = " + v, "span(1, 1) = " + v, "span(1, 2) = " + v,
                "note(0, 1, NONE) = KIND", "looks(0, 1) = " + v, "looks(0, 0) = 0");
        }
    }

    private static void floats() {
        DUE.sentence("Promise 34", "of floats v halves, -100000 .. 100000; NONE: NO NUMBER");
        BudgetHouse x = new BudgetHouse();
        due(x, "book(0, 1, 2) = 2");
        for (String v : new String[] {"100000", "-100000", "99999", "-99999", "1", "-1", "0", "3", "-3"}) {
            due(x, "note(0, 1, " + v + ") = 1", "looks(0, 1) = " + v, "span(1, 1) = " + v, "span(1, 2) = " + v);
            for (String bad : new String[] {"100001", "-100001", "MAX", "MIN", "BAD", "NO", "-1000000006"}) {
                due(x, "note(0, 1, " + bad + ") = BAD", "looks(0, 1) = " + v);
            }
        }
        due(x, "note(0, 0, 8) = 1", "note(0, 1, NONE) = 1", "looks(0, 1) = 8", "note(0, 0, NONE) = 1",
            "looks(0, 0) = KIND", "looks(0, 1) = KIND", "note(0, 2, NONE) = INDEX", "note(0, 1, -2) = 1",
            "looks(0, 0) = KIND", "looks(0, 1) = -2");
    }

    private static void noNumbers() {
        sentence("A YEAR of floats may be NO NUMBER: it is as the YEAR ahead (again and again)");
        BudgetHouse x = new BudgetHouse();
        due(x, "book(0, 1, 20) = 20", "note(0, 0, 5) = 1");
        for (int year = 1; year < 20; year++) {
            DUE.is("note(0, " + year + ", NONE)", x.note(0, year, BudgetHouse.NONE), 1);
        }
        for (int year = 0; year < 20; year++) {
            DUE.is("looks(0, " + year + ")", x.looks(0, year), 5);
            DUE.is("span(" + year + ", 1)", x.span(year, 1), 5);
        }
        due(x, "note(0, 10, 6) = 1", "looks(0, 9) = 5", "looks(0, 10) = 6", "looks(0, 19) = 6", "note(0, 0, NONE) = 1",
            "looks(0, 0) = KIND", "looks(0, 9) = KIND", "span(9, 0) = 8", "span(9, 1) = NONE", "span(9, 2) = NONE",
            "looks(0, 10) = 6", "note(0, 10, NONE) = 1");
        for (int year = 0; year < 20; year++) {
            DUE.is("looks(0, " + year + ")", x.looks(0, year), BudgetHouse.KIND);
            DUE.is("span(" + year + ", 0)", x.span(year, 0), 8);
        }
        due(x, "looks(0, 20) = INDEX", "note(0, 19, 0) = 1", "looks(0, 19) = 0", "looks(0, 18) = KIND");
    }

    private static void copies() {
        DUE.sentence("Promise 36", "So many YEARS of a BOOK come to another one (or the same), as they were: many");
        BudgetHouse x = new BudgetHouse();
        due(x, "book(6, 0, 20) = 20", "book(7, 0, 20) = 20");
        for (int year = 0; year < 20; year++) {
            x.note(6, year, year + 1);
        }
        due(x, "copy(6, 0, 7, 0, 21) = INDEX", "looks(7, 0) = 0", "copy(6, 0, 7, 0, 20) = 20");
        for (int year = 0; year < 20; year++) {
            DUE.is("looks(7, " + year + ")", x.looks(7, year), year + 1);
            DUE.is("looks(6, " + year + ")", x.looks(6, year), year + 1);
        }
        due(x, "copy(6, 19, 7, 0, 1) = 1", "looks(7, 0) = 20", "copy(6, 0, 7, 19, 1) = 1", "looks(7, 19) = 1",
            "looks(7, 18) = 19", "copy(6, 20, 7, 20, 0) = 0", "copy(6, 20, 7, 0, 0) = 0", "copy(6, 0, 7, 20, 0) = 0",
            "copy(6, 21, 7, 0, 0) = INDEX", "copy(6, 0, 7, 21, 0) = INDEX", "copy(6, 20, 7, 0, 1) = INDEX",
            "copy(6, 0, 7, 20, 1) = INDEX", "copy(6, 1, 7, 0, 20) = INDEX", "copy(6, 0, 7, 1, 20) = INDEX",
            "copy(6, 1, 7, 1, 19) = 19", "looks(7, 0) = 20", "looks(7, 1) = 2", "looks(7, 19) = 20");
        due(x, "book(0, 0, 0) = 0", "copy(0, 0, 0, 0, 0) = 0", "copy(0, 0, 6, 20, 0) = 0",
            "copy(0, 0, 6, 0, 1) = INDEX", "copy(6, 0, 0, 0, 1) = INDEX", "copy(0, 1, 0, 0, 0) = INDEX",
            "copy(0, 0, 0, 0, -1) = INDEX");
        sentence("A YEAR of floats may be NO NUMBER (copied as it is)");
        BudgetHouse y = new BudgetHouse();
        due(y, "book(0, 1, 3) = 3", "note(0, 0, 5) = 1", "note(0, 1, NONE) = 1", "note(0, 2, 7) = 1",
            "book(7, 1, 3) = 3", "note(7, 0, -4) = 1", "copy(0, 1, 7, 1, 2) = 2", "looks(7, 0) = -4",
            "looks(7, 1) = -4", "looks(7, 2) = 7", "copy(0, 1, 7, 0, 1) = 1", "looks(7, 0) = KIND",
            "looks(7, 1) = KIND");
    }

    private static void copiesOverItself() {
        DUE.sentence("Promise 36", "come to another one (or the same), as they were");
        for (int from = 0; from < 5; from++) {
            for (int to = 0; to < 5; to++) {
                for (int many = 0; many <= 5; many++) {
                    BudgetHouse x = new BudgetHouse();
                    x.book(3, 0, 5);
                    for (int year = 0; year < 5; year++) {
                        x.note(3, year, 10 + year);
                    }
                    boolean fits = from + many <= 5 && to + many <= 5;
                    DUE.is("copy(3, " + from + ", 3, " + to + ", " + many + ")", x.copy(3, from, 3, to, many),
                        fits ? many : BudgetHouse.INDEX);
                    for (int year = 0; year < 5; year++) {
                        boolean copied = fits && year >= to && year < to + many;
                        DUE.is("looks(3, " + year + ")", x.looks(3, year), 10 + (copied ? year - to + from : year));
                    }
                }
            }
        }
        BudgetHouse x = new BudgetHouse();
        x.book(0, 0, 20);
        for (int year = 0; year < 20; year++) {
            x.note(0, year, year);
        }
        due(x, "copy(0, 0, 0, 1, 19) = 19", "looks(0, 0) = 0", "looks(0, 1) = 0", "looks(0, 19) = 18",
            "copy(0, 1, 0, 0, 19) = 19", "looks(0, 0) = 0", "looks(0, 18) = 18", "looks(0, 19) = 18",
            "copy(0, 0, 0, 0, 20) = 20", "looks(0, 18) = 18");
    }

    private static void spans() {
        sentence("NOT KNOWN of a YEAR: how many OFFICES cannot be READ; THE SPAN: the least, the greatest that can");
        BudgetHouse x = new BudgetHouse();
        due(x, "span(0, 0) = 8", "span(0, 1) = NONE", "span(0, 2) = NONE");
        int[] values = {5, -3, 9, 0, -8, 7, 12, -20};
        int least = Integer.MAX_VALUE;
        int greatest = Integer.MIN_VALUE;
        for (int office = 0; office < 8; office++) {
            x.book(office, office % 2, 1 + office);
            x.note(office, 0, values[office]);
            least = Math.min(least, values[office]);
            greatest = Math.max(greatest, values[office]);
            DUE.is("span(0, 0)", x.span(0, 0), 7 - office);
            DUE.is("span(0, 1)", x.span(0, 1), least);
            DUE.is("span(0, 2)", x.span(0, 2), greatest);
        }
        due(x, "span(1, 0) = 1", "span(7, 0) = 7", "span(7, 1) = 0", "span(8, 0) = 8", "span(8, 1) = NONE",
            "span(MAX, 0) = 8", "span(MAX, 2) = NONE", "note(1, 0, NONE) = 1", "span(0, 0) = 1", "span(0, 1) = -20",
            "span(-1, 0) = BAD", "span(MIN, 0) = BAD", "note(0, 0, MAX) = 1", "note(2, 0, MIN) = 1", "span(0, 1) = MIN",
            "span(0, 2) = MAX", "book(0, -1, 0) = 0", "span(0, 2) = 12", "span(0, 0) = 2");
        BudgetHouse y = new BudgetHouse();
        due(y, "book(3, 0, 1) = 1", "note(3, 0, MIN) = 1", "span(0, 1) = MIN", "span(0, 2) = MIN",
            "note(3, 0, MAX) = 1", "span(0, 1) = MAX", "span(0, 2) = MAX", "book(4, 1, 1) = 1", "note(4, 0, NONE) = 1",
            "span(0, 0) = 7", "span(0, 1) = MAX");
    }
}
