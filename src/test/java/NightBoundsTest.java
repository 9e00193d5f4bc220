import java.util.ArrayList;
import java.util.Arrays;
import java.util.List;

/** The bounds that "Terms", 5, names: WISHES, CARRY, INTERPRETERS, THE SHIFT, OFFERS, THE NIGHT, ROWS, IMAGES. */
public final class NightBoundsTest {
    private static final int NONE = BudgetHouse.NONE;
    private static final Due DUE = new Due("NightBoundsTest");

    public static void main(String[] args) {
        wishes();
        eightLines();
        fewLines();
        carryTwenty();
        carryTies();
        sixInterpreters();
        speeches();
        threeHours();
        shiftOfHours();
        eightOffers();
        against();
        nightBounds();
        nightTies();
        sixtyNumbers();
        rowsOfTheNight();
        toldThirty();
        toldMinutes();
        toldInAnyRow();
        images();
        imageOfAll();
        DUE.end();
    }

    private static void sentence(String words) {
        DUE.sentence("Terms 5", words);
    }

    private static void due(BudgetHouse x, String... rows) {
        Calls.due(DUE, x, rows);
    }

    private static void tell(BudgetHouse x, int... numbers) {
        for (int v : numbers) {
            x.tell(v);
        }
    }

    private static void wishes() {
        sentence("of each PARTY a set of the first 8 LINES (by their numbers, no CHANGES; bits, 0 at first)");
        BudgetHouse x = new BudgetHouse();
        for (int party = 0; party < 9; party++) {
            DUE.is("wish(" + party + ") at first", x.wish(party, 255 - party), 0);
        }
        for (int party = 0; party < 9; party++) {
            DUE.is("wish(" + party + ")", x.wish(party, 0), 255 - party);
        }
        due(x, "wish(8, 255) = 0", "wish(8, 256) = BAD", "wish(8, -1) = BAD", "wish(9, 1) = BAD", "wish(8, 0) = 255");
        for (int party = 0; party < 9; party++) {
            BudgetHouse y = new BudgetHouse();
            for (int m = 0; m < 9; m++) {
                y.member(m, 0);
            }
            due(y, "paper(1, 0, 5) = 0", "carry(1, 0) = NONE");
            y.wish(party, 1);
            due(y, "carry(1, 0) = 1", "carry(1, 1) = 5", "carry(1, 2) = 1", "carry(2, 0) = NONE");
            y.go(party, 0);
            due(y, "carry(1, 0) = NONE");
        }
    }

    private static void eightLines() {
        sentence("the first 8 LINES (by their numbers, no CHANGES)");
        BudgetHouse x = new BudgetHouse();
        due(x, "member(0, 1) = 0", "paper(0, 0, 0) = 0");
        for (int i = 0; i < 10; i++) {
            x.paper(1, 0, 1 << i);
            x.paper(2, 1, 500);
        }
        for (int i = 0; i < 8; i++) {
            x.wish(0, 1 << i);
            DUE.is("carry(1, 0) of line " + i, x.carry(1, 0), 1 << i);
            DUE.is("carry(1, 1) of line " + i, x.carry(1, 1), 1 << i);
        }
        due(x, "wish(0, 255) = 128", "carry(1, 0) = 255", "carry(1, 1) = 255", "carry(1, 2) = 1");
        sentence("SUMS of LINES in whatever state");
        BudgetHouse y = new BudgetHouse();
        due(y, "member(0, 1) = 0", "paper(1, 0, 9999) = 0", "paper(1, 0, 3) = 1", "paper(7, 1, 0) = 2",
            "wish(0, 3) = 0", "put(0) = 0", "paper(6, 1, 1) = 3", "put(1) = 1", "carry(1, 1) = 10002", "rule(2) = 1",
            "carry(1, 1) = 10002", "mend(1) = 1", "carry(1, 1) = 10002");
    }

    private static void fewLines() {
        sentence("if all it wishes (of LINES that there are) are GIVEN, and it wishes one of these at least");
        BudgetHouse x = new BudgetHouse();
        due(x, "member(0, 1) = 0", "wish(0, 255) = 0", "carry(1, 0) = NONE", "paper(1, 0, 5) = 0", "carry(1, 0) = 1",
            "carry(1, 1) = 5", "paper(1, 0, 6) = 1", "carry(1, 0) = 3", "carry(1, 1) = 11", "wish(0, 4) = 255",
            "carry(1, 0) = NONE", "paper(1, 0, 0) = 2", "carry(1, 0) = 4", "carry(1, 1) = 0", "wish(0, 5) = 4",
            "carry(1, 0) = 5", "wish(0, 8) = 5", "carry(1, 0) = NONE", "wish(0, 9) = 8", "carry(1, 0) = 1",
            "wish(0, 0) = 9", "carry(1, 0) = NONE");
    }

    private static void carryTwenty() {
        sentence("CARRY n: .. MEMBERS (IN; in a PAIR, too) of such PARTIES are n or more");
        BudgetHouse x = new BudgetHouse();
        for (int m = 0; m < 20; m++) {
            x.member(m < 12 ? 8 : 7, 0);
        }
        due(x, "paper(1, 0, 5) = 0", "paper(1, 0, 4) = 1", "wish(8, 1) = 0", "wish(7, 2) = 0", "carry(0, 0) = BAD",
            "carry(21, 0) = BAD", "carry(1, 0) = 2", "carry(8, 0) = 2", "carry(8, 2) = 8", "carry(9, 0) = 1",
            "carry(12, 0) = 1", "carry(12, 2) = 12", "carry(13, 0) = 3", "carry(20, 0) = 3", "carry(20, 1) = 9",
            "carry(20, 2) = 20");
        for (int p = 0; p < 10; p++) {
            x.pair(2 * p, 2 * p + 1, 9);
        }
        due(x, "count(2) = 10", "carry(20, 2) = 20", "go(0, 0) = 1", "carry(20, 0) = NONE", "carry(19, 2) = 19",
            "carry(12, 0) = 3", "carry(11, 0) = 1", "go(19, 0) = 1", "carry(19, 0) = NONE", "carry(18, 0) = 3");
    }

    private static void carryTies() {
        sentence("with the least SUMS together; of several the fewest LINES, then the least as bits");
        BudgetHouse x = new BudgetHouse();
        for (int party = 0; party < 5; party++) {
            x.member(party, 0);
        }
        due(x, "paper(1, 0, 2) = 0", "paper(1, 0, 2) = 1", "paper(1, 0, 4) = 2", "paper(1, 0, 4) = 3", "wish(0, 3) = 0",
            "wish(1, 8) = 0", "carry(1, 0) = 8", "wish(2, 4) = 0", "carry(1, 0) = 4", "wish(3, 1) = 0",
            "carry(1, 0) = 1", "wish(4, 2) = 0", "carry(1, 0) = 1", "carry(2, 0) = 3", "carry(2, 2) = 3",
            "carry(3, 0) = 3", "carry(4, 0) = 7", "carry(5, 0) = 15");
        due(new BudgetHouse(), "member(0, 0) = 0", "member(1, 0) = 1", "paper(1, 0, 0) = 0", "paper(1, 0, 0) = 1",
            "paper(1, 0, 0) = 2", "wish(0, 6) = 0", "carry(1, 0) = 6", "carry(1, 1) = 0", "carry(1, 2) = 1",
            "wish(1, 4) = 0", "carry(1, 0) = 4", "wish(0, 5) = 6", "carry(2, 0) = 5");
    }

    private static void sixInterpreters() {
        sentence("INTERPRETERS, 6 at most, numbered from 0: from which TONGUE to which they speak, and back (none "
            + "at first)");
        BudgetHouse x = new BudgetHouse();
        due(x, "speech(0, 0, 6) = 1", "speech(1, 6, 0) = 1");
        for (int i = 0; i < 6; i++) {
            DUE.is("interpreter, the " + i + ".", x.interpreter(), i);
        }
        due(x, "interpreter() = FULL", "heard(8) = 0", "speaks(6, 0, 1) = BAD", "speaks(5, 6, 0) = 1", "heard(8) = 2",
            "shift(2, 0) = 5", "shift(2, 1) = 5", "speaks(5, 0, 6) = 1", "speaks(4, 0, 6) = 1", "shift(2, 0) = 4");
        for (int i = 0; i < 4; i++) {
            DUE.is("speaks(" + i + ", 0, 1)", x.speaks(i, 0, 1), 1);
        }
        sentence("from which TONGUE to which they speak: 21 twos of 7 TONGUES, each by itself");
        for (int one = 0; one < 7; one++) {
            for (int other = 0; other < 7; other++) {
                BudgetHouse y = new BudgetHouse();
                y.interpreter();
                DUE.is("speaks(0, " + one + ", " + other + ")", y.speaks(0, one, other),
                    one == other ? BudgetHouse.BAD : 1);
                hearsOne(y, one, other);
            }
        }
    }

    private static void hearsOne(BudgetHouse x, int one, int other) {
        for (int a = 0; a < 7; a++) {
            for (int b = 0; b < 7; b++) {
                boolean same = a == one && b == other || a == other && b == one;
                DUE.is("speech(7, " + a + ", " + b + ")", x.speech(7, a, b), a == b ? BudgetHouse.BAD : 1);
                if (a != b) {
                    DUE.is("heard(8) of " + a + " to " + b, x.heard(8), same && one != other ? 1 : 0);
                }
            }
        }
    }

    private static void speeches() {
        sentence("HOURS 0 .. 7 of the night: a SPEECH from a TONGUE to another one (NONE at first)");
        BudgetHouse x = new BudgetHouse();
        due(x, "interpreter() = 0", "speaks(0, 0, 1) = 1", "heard(8) = 0");
        for (int hour = 0; hour < 8; hour++) {
            DUE.is("speech(" + hour + ", 1, 0)", x.speech(hour, 1, 0), 1);
            for (int n = 1; n <= 8; n++) {
                DUE.is("heard(" + n + ") of hour " + hour, x.heard(n), hour < n ? 1 : 0);
            }
            DUE.is("speech(" + hour + ", 1, NONE)", x.speech(hour, 1, NONE), 1);
            DUE.is("heard(8)", x.heard(8), 0);
        }
        DUE.sentence("Promise 42", "(unlike; or one of the two NONE, whatever the other is: there is none): 1. BAD.");
        due(x, "speech(7, 1, 0) = 1", "speech(8, 1, 0) = BAD", "speech(-1, 1, 0) = BAD", "speech(7, 1, 1) = BAD",
            "speech(7, 7, 0) = BAD", "speech(7, 0, -1) = BAD", "heard(8) = 1", "speech(7, NONE, 99) = 1",
            "heard(8) = 0", "speech(7, 0, 1) = 1", "speech(7, MIN, NONE) = 1", "heard(8) = 0", "speech(7, 0, 1) = 1",
            "speech(7, NONE, NONE) = 1", "heard(8) = 0", "speech(8, NONE, 0) = BAD", "speech(-1, 0, NONE) = BAD");
    }

    /** All HOURS alike, and so many INTERPRETERS who speak from the one to the other. */
    private static BudgetHouse nightOf(int interpreters) {
        BudgetHouse x = new BudgetHouse();
        for (int hour = 0; hour < 8; hour++) {
            x.speech(hour, 2, 5);
        }
        for (int i = 0; i < interpreters; i++) {
            x.interpreter();
            x.speaks(i, 5, 2);
        }
        return x;
    }

    private static void shiftIs(BudgetHouse x, int heard, int... want) {
        int n = want.length;
        DUE.is("heard(" + n + ")", x.heard(n), heard);
        for (int hour = 0; hour < n; hour++) {
            DUE.is("shift(" + n + ", " + hour + ")", x.shift(n, hour), want[hour]);
        }
    }

    private static void threeHours() {
        sentence("nobody three HOURS one behind the other");
        int[] heard = {1, 2, 2, 3, 4, 4, 5, 6};
        for (int n = 1; n <= 8; n++) {
            DUE.is("heard(" + n + ") by nobody", nightOf(0).heard(n), 0);
            DUE.is("heard(" + n + ") by one", nightOf(1).heard(n), heard[n - 1]);
            DUE.is("heard(" + n + ") by two", nightOf(2).heard(n), n);
            DUE.is("heard(" + n + ") by six", nightOf(6).heard(n), n);
        }
        shiftIs(nightOf(0), 0, NONE, NONE, NONE, NONE, NONE, NONE, NONE, NONE);
        shiftIs(nightOf(1), 6, 0, 0, NONE, 0, 0, NONE, 0, 0);
        shiftIs(nightOf(1), 2, 0, 0, NONE);
        shiftIs(nightOf(1), 3, 0, 0, NONE, 0);
        shiftIs(nightOf(2), 8, 0, 0, 1, 0, 0, 1, 0, 0);
        shiftIs(nightOf(6), 8, 0, 0, 1, 0, 0, 1, 0, 0);
        shiftIs(nightOf(2), 3, 0, 0, 1);
        BudgetHouse x = nightOf(1);
        due(x, "speech(1, NONE, NONE) = 1");
        shiftIs(x, 2, 0, NONE, 0);
        shiftIs(x, 3, 0, NONE, 0, 0);
        due(x, "speech(0, NONE, NONE) = 1");
        shiftIs(x, 2, 0, NONE, 0, 0);
        due(x, "interpreter() = 1");
        shiftIs(x, 2, 0, 1, 0, 0);
        due(new BudgetHouse(), "interpreter() = 0", "heard(3) = 0", "shift(3, 0) = 0", "shift(3, 1) = 0",
            "shift(3, 2) = NONE");
    }

    private static void shiftOfHours() {
        sentence("of several the first (by HOURS the least INTERPRETER, none behind all)");
        BudgetHouse x = new BudgetHouse();
        for (int i = 0; i < 6; i++) {
            x.interpreter();
        }
        shiftIs(x, 0, 0, 0, 1, 0, 0, 1, 0, 0);
        due(x, "speaks(5, 0, 1) = 1", "speech(7, 0, 1) = 1");
        shiftIs(x, 1, 0, 0, 1, 0, 0, 1, 0, 5);
        due(x, "speech(5, 1, 0) = 1", "speech(6, 1, 0) = 1");
        // Who speaks may not have all three HOURS: the first one goes to another.
        shiftIs(x, 2, 0, 0, 1, 0, 0, 1, 5, 5);
        due(x, "speaks(0, 0, 1) = 1");
        shiftIs(x, 3, 0, 0, 1, 0, 0, 5, 0, 0);
        due(x, "speaks(3, 2, 3) = 1", "speech(0, 3, 2) = 1", "speech(1, 3, 2) = 1", "speech(2, 3, 2) = 1");
        shiftIs(x, 5, 0, 3, 3, 0, 0, 5, 0, 0);
        due(x, "heard(0) = BAD", "heard(9) = BAD", "shift(8, 8) = BAD", "shift(1, 1) = BAD", "shift(1, 0) = 3");
    }

    private static void eightOffers() {
        sentence("OFFERS, 8 at most, numbered from 0: VOTES 1 .. 9, MINUTES 1 .. 99, a PRICE 0 .. 999");
        BudgetHouse x = new BudgetHouse();
        due(x, "night(1, 999, 0) = NONE");
        for (int i = 0; i < 8; i++) {
            DUE.is("offer, the " + i + ".", x.offer(9, 99, 999, 0), i);
            DUE.is("night(" + 9 * (i + 1) + ", 999, 0)", x.night(9 * (i + 1), 999, 0), (2 << i) - 1);
            DUE.is("night(" + 9 * (i + 1) + ", 999, 1)", x.night(9 * (i + 1), 999, 1), 999 * (i + 1));
            DUE.is("night(" + 9 * (i + 1) + ", 999, 2)", x.night(9 * (i + 1), 999, 2), 99 * (i + 1));
            DUE.is("night(" + (9 * i + 10) + ", 999, 0)", x.night(9 * i + 10, 999, 0), NONE);
        }
        due(x, "offer(1, 1, 0, 0) = FULL", "count(13) = 8", "night(72, 792, 0) = 255", "night(72, 791, 0) = NONE",
            "night(73, 999, 0) = NONE", "night(99, 999, 0) = NONE", "night(1, 99, 0) = 1", "night(1, 98, 0) = NONE",
            "night(9, 999, 0) = 1", "night(10, 999, 0) = 3");
        due(new BudgetHouse(), "offer(1, 1, 0, 0) = 0", "night(1, 1, 0) = 1", "night(1, 1, 1) = 0",
            "night(1, 1, 2) = 1", "night(2, 1, 0) = NONE");
        for (int i = 0; i < 8; i++) {
            BudgetHouse y = new BudgetHouse();
            for (int k = 0; k < 8; k++) {
                y.offer(k == i ? 9 : 1, 50, 500, 0);
            }
            DUE.is("night(9, 99, 0) by offer " + i, y.night(9, 99, 0), 1 << i);
        }
    }

    private static void against() {
        sentence("AGAINST: which may not be taken with it (bits; either way; its own bit counts nothing)");
        for (int i = 0; i < 8; i++) {
            for (int j = 0; j < 8; j++) {
                BudgetHouse x = new BudgetHouse();
                for (int k = 0; k < 8; k++) {
                    x.offer(1, 1, 1, k == i ? 1 << j : 0);
                }
                DUE.is("night(8, 999, 0), " + i + " against " + j, x.night(8, 999, 0), i == j ? 255 : NONE);
                int without = 255 - (1 << Math.max(i, j));
                DUE.is("night(7, 999, 0), " + i + " against " + j, x.night(7, 999, 0), i == j ? 127 : without);
            }
        }
        BudgetHouse x = new BudgetHouse();
        due(x, "offer(5, 1, 1, 255) = 0", "night(5, 9, 0) = 1", "offer(5, 1, 1, 0) = 1", "night(10, 9, 0) = NONE",
            "night(5, 9, 0) = 1", "offer(5, 1, 1, 4) = 2", "night(10, 9, 0) = 6", "offer(5, 1, 1, 6) = 3",
            "night(10, 9, 0) = 6", "night(11, 9, 0) = NONE");
    }

    private static void nightBounds() {
        sentence("the set of OFFERS with n VOTES or more, MINUTES m at most, none AGAINST another one, with the "
            + "least PRICE");
        BudgetHouse x = new BudgetHouse();
        due(x, "offer(3, 10, 7, 0) = 0", "offer(4, 20, 9, 0) = 1", "night(3, 10, 0) = 1", "night(3, 9, 0) = NONE",
            "night(4, 20, 0) = 2", "night(4, 19, 0) = NONE", "night(3, 20, 0) = 1", "night(5, 30, 0) = 3",
            "night(7, 30, 0) = 3", "night(7, 30, 1) = 16", "night(7, 30, 2) = 30", "night(7, 29, 0) = NONE",
            "night(8, 30, 0) = NONE", "night(0, 30, 0) = BAD", "night(1, 0, 0) = BAD", "night(99, 999, 0) = NONE",
            "night(100, 999, 0) = BAD", "night(99, 1000, 0) = BAD", "night(1, 1, 0) = NONE", "night(1, 1, 3) = BAD");
        due(x, "offer(9, 1, 999, 0) = 2", "night(8, 1, 0) = 4", "night(10, 999, 0) = 5", "night(13, 999, 0) = 6",
            "night(16, 31, 0) = 7", "night(16, 31, 1) = 1015");
    }

    private static void nightTies() {
        sentence("of several the fewest MINUTES, then the least as bits");
        BudgetHouse x = new BudgetHouse();
        due(x, "offer(4, 30, 30, 0) = 0", "offer(2, 15, 15, 0) = 1", "offer(2, 15, 15, 0) = 2", "night(4, 99, 0) = 1",
            "offer(2, 14, 15, 0) = 3", "night(4, 99, 0) = 10", "night(4, 99, 2) = 29", "night(2, 99, 0) = 8",
            "offer(2, 14, 15, 0) = 4", "night(2, 99, 0) = 8", "night(4, 99, 0) = 24", "offer(1, 1, 0, 0) = 5",
            "night(2, 99, 0) = 8", "night(4, 99, 0) = 24", "night(5, 99, 0) = 56", "offer(9, 99, 0, 0) = 6",
            "night(4, 999, 0) = 64", "offer(9, 99, 0, 0) = 7", "night(4, 999, 0) = 64", "night(10, 999, 0) = 96",
            "night(18, 999, 0) = 192");
    }

    private static void sixtyNumbers() {
        DUE.sentence("Promise 47", "One more number waits: how many. FULL: 60 wait.");
        BudgetHouse x = new BudgetHouse();
        for (int i = 1; i <= 60; i++) {
            DUE.is("tell, the " + i + ".", x.tell(Integer.MIN_VALUE + i), i);
        }
        due(x, "tell(0) = FULL", "count(14) = 60", "check(2, 1, 1) = BAD", "count(14) = 0", "tell(MAX) = 1",
            "tell(MIN) = 2", "tell(NONE) = 3", "count(14) = 3", "check(0, 1, 1) = NONE", "count(14) = 0", "tell(1) = 1",
            "check(1, 1, 1) = NO", "count(14) = 0", "check(0, 1, 1) = NONE", "check(1, 1, 1) = NO");
    }

    private static void rowsOfTheNight() {
        sentence("ROWS: of each OFFER in it, by numbers, its number, and PRICE of those up to it");
        BudgetHouse x = new BudgetHouse();
        for (int i = 0; i < 8; i++) {
            x.offer(9, 99, 999 - i, 0);
        }
        int[] rows = new int[16];
        int price = 0;
        for (int i = 0; i < 8; i++) {
            price += 999 - i;
            rows[2 * i] = i;
            rows[2 * i + 1] = price;
        }
        tell(x, rows);
        due(x, "check(0, 72, 999) = 0", "count(14) = 0");
        DUE.sentence("Promise 48",
            "else 1 and how many numbers stand right ahead of the first that is not (or is missing, or one too many)");
        for (int i = 0; i < 16; i++) {
            for (int k = 0; k < i; k++) {
                x.tell(rows[k]);
            }
            DUE.is("check(0, 72, 999) of the first " + i, x.check(0, 72, 999), 1 + i);
        }
        for (int i = 0; i < 16; i++) {
            for (int k = 0; k < 16; k++) {
                x.tell(k == i ? rows[k] + 1 : rows[k]);
            }
            due(x, "check(0, 72, 999) = " + (1 + i));
        }
        fewerRows();
    }

    /** Numbers that waited before count nothing. */
    private static void fewerRows() {
        BudgetHouse y = new BudgetHouse();
        tell(y, 8, 8, 8, 8, 8, 8);
        due(y, "check(2, 1, 1) = BAD", "member(0, 0) = 0", "keep() = 0", "offer(1, 1, 5, 0) = 0", "tell(0) = 1",
            "tell(5) = 2", "check(0, 1, 1) = 0", "tell(1) = 1", "tell(0) = 2", "check(1, 1, 1) = 0", "tell(1) = 1",
            "tell(0) = 2", "tell(8) = 3", "check(1, 1, 1) = 3", "tell(1) = 1", "tell(0) = 2", "tell(1) = 3",
            "tell(0) = 4", "check(1, 2, 1) = 0", "tell(0) = 1", "tell(5) = 2", "check(0, 1, 1) = 0", "tell(0) = 1",
            "check(0, 1, 1) = 2");
        due(y, "check(0, 1, 1) = 1", "tell(0) = 1", "tell(5) = 2", "tell(0) = 3", "check(0, 1, 1) = 3", "tell(0) = 1",
            "tell(5) = 2", "check(0, 1, 1) = 0", "tell(1) = 1", "tell(5) = 2", "tell(0) = 3", "check(0, 1, 1) = 1");
        for (int i = 0; i < 60; i++) {
            y.tell(i == 1 ? 5 : 0);
        }
        due(y, "check(0, 1, 1) = 3");
    }

    private static void toldThirty() {
        DUE.sentence("Promise 48", "1 of THE NIGHT TOLD (n 1 .. 30; m any)");
        BudgetHouse x = new BudgetHouse();
        for (int m = 0; m < 20; m++) {
            x.member(0, 0);
        }
        x.paper(0, 0, 0);
        for (int m = 0; m < 20; m++) {
            x.train(m, 10 * (m + 11));
        }
        for (int i = 0; i < 30; i++) {
            x.print(0, 0, 10 + 3 * i);
        }
        int[] rows = new int[60];
        for (int i = 0; i < 30; i++) {
            int then = 10 * (i + 1);
            for (int m = 0; m < 20; m++) {
                rows[2 * i] += 10 * (m + 11) > then ? 1 : 0;
            }
            for (int s = 0; s < 30; s++) {
                rows[2 * i + 1] += 10 + 3 * s > then ? 1 : 0;
            }
        }
        due(x, "keep() = 0");
        for (int n = 6; n <= 30; n += 6) {
            tell(x, Arrays.copyOf(rows, 2 * n));
            due(x, "check(1, " + n + ", MIN) = 0");
        }
        due(x, "check(1, 30, MAX) = 1", "check(1, 31, 0) = BAD", "check(1, 0, 0) = BAD");
        rows[59]++;
        tell(x, rows);
        due(x, "check(1, 30, 0) = 60");
        tell(x, rows);
        due(x, "check(1, 29, 0) = 59");
    }

    private static void toldMinutes() {
        sentence("THE NIGHT TOLD: how many MEMBERS are IN, and how many SHEETS are on their way, behind each of n "
            + "times 10 MINUTES from THE IMAGE on (nobody doing anything)");
        BudgetHouse x = new BudgetHouse();
        due(x, "member(0, 0) = 0", "member(0, 0) = 1", "member(0, 0) = 2", "member(0, 0) = 3", "paper(0, 0, 0) = 0",
            "train(0, 5) = NONE", "run(5) = 5", "go(0, 1) = 0", "train(1, 15) = NONE", "train(2, 16) = NONE",
            "go(3, 0) = 1", "train(3, 17) = NONE", "print(0, 0, 10) = 1", "print(0, 0, 11) = 2", "print(0, 0, 20) = 3",
            "clock(1) = 0", "keep() = 5", "run(100) = 105", "go(0, 0) = 1", "print(0, 0, 9) = 1");
        tell(x, 2, 2);
        due(x, "check(1, 1, 0) = 0");
        tell(x, 2, 2, 1, 0);
        due(x, "check(1, 2, 0) = 0");
        tell(x, 2, 2, 1, 0, 1, 0);
        due(x, "check(1, 3, 0) = 0", "count(16) = 105", "back() = 5", "count(10) = 3", "run(10) = 15", "count(1) = 2",
            "count(10) = 2", "run(10) = 25", "count(1) = 1", "count(10) = 0");
    }

    /** The SHEET that was printed first comes last; one MEMBER after the other leaves, the first one last. */
    private static void toldInAnyRow() {
        BudgetHouse x = new BudgetHouse();
        due(x, "member(0, 0) = 0", "member(0, 0) = 1", "paper(0, 0, 0) = 0", "train(0, 21) = NONE",
            "train(1, 20) = NONE", "print(0, 0, 21) = 1", "print(0, 0, 20) = 2", "print(0, 0, 10) = 3", "keep() = 0");
        tell(x, 2, 2, 1, 1, 0, 0);
        due(x, "check(1, 3, 0) = 0", "run(10) = 10", "count(1) = 2", "count(10) = 2", "run(10) = 20", "count(1) = 1",
            "count(10) = 1", "run(10) = 30", "count(1) = 0", "count(10) = 0");
    }

    private static void images() {
        sentence("AN IMAGE keeps all but BOOKS, numbers that wait, THE TAPE; all can become as it is (again and "
            + "again)");
        BudgetHouse x = new BudgetHouse();
        due(x, "back() = NO", "keep() = 0", "run(9) = 9", "back() = 0", "run(8) = 8", "back() = 0", "count(16) = 0",
            "run(7) = 7", "keep() = 7", "back() = 7", "run(240) = 247", "back() = 7", "book(0, 0, 1) = 1",
            "tell(5) = 1", "feed(0, 0, 0) = 12", "back() = 7", "looks(0, 0) = 0", "count(14) = 1", "count(15) = 12",
            "note(0, 0, 5) = 1", "keep() = 7", "note(0, 0, 6) = 1", "tell(6) = 2", "trim(3) = 3", "back() = 7",
            "looks(0, 0) = 6", "count(14) = 2", "count(15) = 3");
        due(new BudgetHouse(), "keep() = 0", "member(0, 1) = 0", "paper(1, 0, 5) = 0", "back() = 0", "count(0) = 0",
            "count(3) = 0", "is(0, 0) = BAD", "told(0, 0) = BAD", "member(3, 5) = 0", "is(0, 1) = 5",
            "paper(0, 0, 0) = 0", "told(0, 0) = 0");
    }

    /** A house that is full in all its parts is kept, changed in all of them, and brought back. */
    private static void imageOfAll() {
        sentence("AN IMAGE keeps all: of houses in which everything is full, too");
        List<String> made = new ArrayList<>(Houses.calls(Houses.FULL));
        Unchanged full = new Unchanged(plus(made, "keep()"));
        full.by(DUE, plus(made, "keep()", "run(240)", "run(240)", "put(39)", "put(0)", "go(19, 0)", "train(19, 900)",
            "stance(8, 39, 9)", "wish(8, 9)", "speaks(5, 5, 6)", "speech(7, 5, 6)", "clock(1)"), "back() = 0");
        List<String> rich = new ArrayList<>(Houses.calls(Houses.RICH));
        Unchanged kept = new Unchanged(plus(rich, "keep()"));
        kept.by(DUE, plus(rich, "keep()", "run(9)", "put(2)", "put(1)", "rule(12)", "mend(15)", "go(0, 0)", "go(5, 1)",
            "member(7, 3)", "pair(0, 5, 99)", "breaks(0)", "train(0, 99)", "train(1, NONE)", "stance(8, 20, 9)",
            "print(20, 6, 0)", "print(20, 5, 9)", "paper(1, 0, 99)", "hung(21, 1, 2, 1)", "income(1, 999)",
            "wish(0, 0)", "wish(8, 1)", "interpreter()", "speaks(0, 4, 5)", "speaks(2, 0, 1)", "speech(0, NONE, 0)",
            "speech(5, 1, 2)", "offer(9, 1, 0, 0)", "clock(0)"), "back() = 8");
        full.by(DUE, made, "keep() = 0");
        kept.by(DUE, rich, "keep() = 8");
    }

    private static List<String> plus(List<String> made, String... more) {
        List<String> all = new ArrayList<>(made);
        all.addAll(Arrays.asList(more));
        return all;
    }
}
