/** Promises 38 to 46: what carries, shifts, the night. */
public final class CarryTest {
    private static final int BAD = BudgetHouse.BAD, FULL = BudgetHouse.FULL, NONE = BudgetHouse.NONE;
    private static final Due DUE = new Due("CarryTest");

    public static void main(String[] args) {
        wish();
        carry();
        carryTies();
        carryLines();
        interpreter();
        speaks();
        speech();
        heard();
        shift();
        offer();
        night();
        nightTies();
        DUE.end();
    }

    private static void wish() {
        DUE.promise(38);
        BudgetHouse x = new BudgetHouse();
        DUE.is("wish(-1, 0)", x.wish(-1, 0), BAD);
        DUE.is("wish(9, 0)", x.wish(9, 0), BAD);
        DUE.is("wish(0, -1)", x.wish(0, -1), BAD);
        DUE.is("wish(0, 256)", x.wish(0, 256), BAD);
        DUE.is("wish(8, 255)", x.wish(8, 255), 0);
        DUE.is("wish(8, 1)", x.wish(8, 1), 255);
        DUE.is("wish(8, 0)", x.wish(8, 0), 1);
        DUE.is("wish(7, 0)", x.wish(7, 0), 0);
    }

    private static void carries(BudgetHouse x, int n, int... want) {
        for (int what = 0; what < 3; what++) {
            DUE.is("carry(" + n + ", " + what + ")", x.carry(n, what), want[what]);
        }
    }

    private static void carry() {
        DUE.promise(39);
        BudgetHouse x = new BudgetHouse();
        DUE.is("carry(0, 0)", x.carry(0, 0), BAD);
        DUE.is("carry(21, 0)", x.carry(21, 0), BAD);
        DUE.is("carry(1, 3)", x.carry(1, 3), BAD);
        DUE.is("carry(1, -1)", x.carry(1, -1), BAD);
        carries(x, 20, NONE, NONE, NONE);
        int[] parties = {0, 0, 1, 2, 2, 2, 3};
        for (int party : parties) {
            x.member(party, 0);
        }
        x.paper(1, 0, 10);
        x.paper(1, 0, 20);
        x.paper(1, 0, 40);
        carries(x, 1, NONE, NONE, NONE);
        x.wish(0, 1);
        x.wish(1, 3);
        x.wish(2, 4);
        x.wish(3, 8);
        carries(x, 1, 1, 10, 2);
        carries(x, 2, 1, 10, 2);
        carries(x, 3, 3, 30, 3);
        carries(x, 4, 5, 50, 5);
        carries(x, 6, 7, 70, 6);
        carries(x, 7, NONE, NONE, NONE);
        x.wish(3, 9);
        carries(x, 3, 1, 10, 3);
        x.go(0, 0);
        x.pair(1, 2, 50);
        carries(x, 2, 1, 10, 2);
        carries(x, 3, 3, 30, 3);
        carries(x, 6, 7, 70, 6);
        carries(x, 7, NONE, NONE, NONE);
    }

    private static void carryTies() {
        DUE.promise(39);
        BudgetHouse x = new BudgetHouse();
        for (int party = 0; party < 4; party++) {
            x.member(party, 0);
        }
        int[] sums = {5, 5, 10, 10};
        for (int sum : sums) {
            x.paper(1, 0, sum);
        }
        x.wish(0, 3);
        x.wish(1, 4);
        x.wish(2, 8);
        carries(x, 1, 4, 10, 1);
        x.wish(1, 0);
        carries(x, 1, 8, 10, 1);
        x.wish(2, 0);
        carries(x, 1, 3, 10, 1);
        x.wish(1, 2);
        x.wish(2, 1);
        carries(x, 1, 1, 5, 1);
        carries(x, 2, 3, 10, 3);
        nothingToPay();
    }

    private static void nothingToPay() {
        BudgetHouse x = new BudgetHouse();
        x.member(0, 0);
        x.paper(1, 0, 0);
        x.paper(1, 0, 0);
        x.paper(1, 0, 0);
        x.wish(0, 6);
        carries(x, 1, 6, 0, 1);
    }

    private static void carryLines() {
        DUE.promise(39);
        BudgetHouse x = new BudgetHouse();
        x.member(0, 1);
        x.paper(0, 0, 0);
        for (int i = 0; i < 9; i++) {
            x.paper(1, 0, 1 << i);
            if (i == 3) {
                x.paper(2, 1, 500);
            }
        }
        x.wish(0, 255);
        carries(x, 1, 255, 255, 1);
        x.wish(0, 128);
        carries(x, 1, 128, 128, 1);
        x.print(5, 0, 0);
        x.stance(0, 5, 1);
        x.put(5);
        x.wish(0, 8);
        x.put(6);
        DUE.is("told(6, 3): a line lost", x.told(6, 3), 2);
        carries(x, 1, 8, 8, 1);
        x.wish(0, 16);
        carries(x, 1, 16, 16, 1);
        x.print(3, 0, 0);
        x.paper(2, 3, 7);
        x.print(11, 0, 0);
        x.stance(0, 11, 1);
        DUE.is("put(11)", x.put(11), 1);
        x.wish(0, 4);
        carries(x, 1, 4, 11, 1);
    }

    private static void interpreter() {
        DUE.promise(40);
        BudgetHouse x = new BudgetHouse();
        for (int i = 0; i < 6; i++) {
            DUE.is("interpreter()", x.interpreter(), i);
        }
        DUE.is("interpreter() behind 6", x.interpreter(), FULL);
        DUE.is("count(12)", x.count(12), 6);
    }

    private static void speaks() {
        DUE.promise(41);
        BudgetHouse x = new BudgetHouse();
        DUE.is("speaks(0, 0, 1)", x.speaks(0, 0, 1), BAD);
        x.interpreter();
        x.interpreter();
        DUE.is("speaks(-1, 0, 1)", x.speaks(-1, 0, 1), BAD);
        DUE.is("speaks(2, 0, 1)", x.speaks(2, 0, 1), BAD);
        DUE.is("speaks(0, 7, 1)", x.speaks(0, 7, 1), BAD);
        DUE.is("speaks(0, 1, 7)", x.speaks(0, 1, 7), BAD);
        DUE.is("speaks(0, -1, 1)", x.speaks(0, -1, 1), BAD);
        DUE.is("speaks(0, 1, -1)", x.speaks(0, 1, -1), BAD);
        DUE.is("speaks(0, 3, 3)", x.speaks(0, 3, 3), BAD);
        int n = 0;
        for (int one = 0; one < 7; one++) {
            for (int other = one + 1; other < 7; other++) {
                n++;
                DUE.is("speaks(0, " + one + ", " + other + ")", x.speaks(0, one, other), n);
                DUE.is("speaks(0, " + other + ", " + one + ")", x.speaks(0, other, one), n);
            }
        }
        DUE.is("speaks(1, 6, 5)", x.speaks(1, 6, 5), 1);
    }

    private static void speech() {
        DUE.promise(42);
        BudgetHouse x = new BudgetHouse();
        x.interpreter();
        x.speaks(0, 0, 6);
        DUE.is("speech(-1, 0, 1)", x.speech(-1, 0, 1), BAD);
        DUE.is("speech(8, 0, 1)", x.speech(8, 0, 1), BAD);
        DUE.is("speech(8, NONE, NONE)", x.speech(8, NONE, NONE), BAD);
        DUE.is("speech(0, 2, 2)", x.speech(0, 2, 2), BAD);
        DUE.is("speech(0, 7, 2)", x.speech(0, 7, 2), BAD);
        DUE.is("speech(0, 2, 7)", x.speech(0, 2, 7), BAD);
        DUE.is("speech(0, -1, 2)", x.speech(0, -1, 2), BAD);
        DUE.is("speech(0, 2, -1)", x.speech(0, 2, -1), BAD);
        DUE.is("speech(7, 6, 0)", x.speech(7, 6, 0), 1);
        DUE.is("heard(8)", x.heard(8), 1);
        DUE.is("speech(7, 0, 0) is refused", x.speech(7, 0, 0), BAD);
        DUE.is("heard(8)", x.heard(8), 1);
        DUE.is("speech(7, NONE, 99)", x.speech(7, NONE, 99), 1);
        DUE.is("heard(8)", x.heard(8), 0);
        x.speech(7, 0, 6);
        DUE.is("speech(7, -5, NONE)", x.speech(7, -5, NONE), 1);
        DUE.is("heard(8)", x.heard(8), 0);
        x.speech(7, 0, 6);
        DUE.is("speech(7, NONE, NONE)", x.speech(7, NONE, NONE), 1);
        DUE.is("heard(8)", x.heard(8), 0);
    }

    private static BudgetHouse wholeNight() {
        BudgetHouse x = new BudgetHouse();
        for (int hour = 0; hour < 8; hour++) {
            x.speech(hour, 1, 2);
        }
        return x;
    }

    private static void heard() {
        DUE.promise(43);
        BudgetHouse x = wholeNight();
        DUE.is("heard(0)", x.heard(0), BAD);
        DUE.is("heard(9)", x.heard(9), BAD);
        DUE.is("heard(8) with no interpreters", x.heard(8), 0);
        x.interpreter();
        x.speaks(0, 2, 1);
        int[] one = {1, 2, 2, 3, 4, 4, 5, 6};
        for (int n = 1; n <= 8; n++) {
            DUE.is("heard(" + n + ") by one", x.heard(n), one[n - 1]);
        }
        x.interpreter();
        DUE.is("heard(8): the other one speaks nothing", x.heard(8), 6);
        x.speaks(1, 1, 3);
        DUE.is("heard(8): the other one speaks another two", x.heard(8), 6);
        x.speech(2, 3, 1);
        DUE.is("heard(8): hour 2 by the other one", x.heard(8), 7);
        x.speaks(1, 1, 2);
        DUE.is("heard(8) by two", x.heard(8), 8);
        x.speech(4, 0, 5);
        DUE.is("heard(8): hour 4 by nobody", x.heard(8), 7);
    }

    private static void shifts(BudgetHouse x, int n, int... want) {
        for (int hour = 0; hour < n; hour++) {
            DUE.is("shift(" + n + ", " + hour + ")", x.shift(n, hour), want[hour]);
        }
    }

    private static void shift() {
        DUE.promise(44);
        BudgetHouse x = wholeNight();
        DUE.is("shift(0, 0)", x.shift(0, 0), BAD);
        DUE.is("shift(9, 0)", x.shift(9, 0), BAD);
        DUE.is("shift(3, 3)", x.shift(3, 3), BAD);
        DUE.is("shift(3, -1)", x.shift(3, -1), BAD);
        shifts(x, 8, NONE, NONE, NONE, NONE, NONE, NONE, NONE, NONE);
        x.interpreter();
        shifts(x, 4, 0, 0, NONE, 0);
        x.speaks(0, 1, 2);
        shifts(x, 8, 0, 0, NONE, 0, 0, NONE, 0, 0);
        shifts(x, 4, 0, 0, NONE, 0);
        x.speech(0, NONE, NONE);
        shifts(x, 3, NONE, 0, 0);
        shifts(x, 4, 0, 0, NONE, 0);
        x.interpreter();
        shifts(x, 3, 1, 0, 0);
        x.interpreter();
        x.speaks(2, 1, 2);
        shifts(x, 8, 0, 0, 2, 0, 0, 2, 0, 0);
        x.speech(1, 5, 6);
        x.speaks(2, 6, 5);
        shifts(x, 8, 0, 2, 0, 0, 2, 0, 0, 2);
        x.speech(1, NONE, 0);
        shifts(x, 8, 0, 0, 2, 0, 0, 2, 0, 0);
    }

    private static void offer() {
        DUE.promise(45);
        BudgetHouse x = new BudgetHouse();
        int[][] bad = {{0, 1, 1, 0}, {10, 1, 1, 0}, {1, 0, 1, 0}, {1, 100, 1, 0}, {1, 1, -1, 0}, {1, 1, 1000, 0},
            {1, 1, 1, 256}, {1, 1, 1, -1}};
        for (int[] b : bad) {
            DUE.is("offer(" + b[0] + ", " + b[1] + ", " + b[2] + ", " + b[3] + ")", x.offer(b[0], b[1], b[2], b[3]), BAD);
        }
        DUE.is("offer(9, 99, 999, 255)", x.offer(9, 99, 999, 255), 0);
        DUE.is("night(9, 99, 1)", x.night(9, 99, 1), 999);
        DUE.is("offer(1, 1, 0, 0)", x.offer(1, 1, 0, 0), 1);
        for (int i = 2; i < 8; i++) {
            DUE.is("offer(1, 1, 1, 0)", x.offer(1, 1, 1, 0), i);
        }
        DUE.is("offer behind 8", x.offer(1, 1, 1, 0), FULL);
        DUE.is("a bad offer behind 8", x.offer(0, 1, 1, 0), BAD);
        DUE.is("count(13)", x.count(13), 8);
    }

    private static void nights(BudgetHouse x, int n, int m, int... want) {
        for (int what = 0; what < 3; what++) {
            DUE.is("night(" + n + ", " + m + ", " + what + ")", x.night(n, m, what), want[what]);
        }
    }

    private static void night() {
        DUE.promise(46);
        BudgetHouse x = new BudgetHouse();
        DUE.is("night(0, 1, 0)", x.night(0, 1, 0), BAD);
        DUE.is("night(100, 1, 0)", x.night(100, 1, 0), BAD);
        DUE.is("night(1, 0, 0)", x.night(1, 0, 0), BAD);
        DUE.is("night(1, 1000, 0)", x.night(1, 1000, 0), BAD);
        DUE.is("night(1, 1, 3)", x.night(1, 1, 3), BAD);
        DUE.is("night(1, 1, -1)", x.night(1, 1, -1), BAD);
        nights(x, 99, 999, NONE, NONE, NONE);
        x.offer(3, 30, 10, 0);
        x.offer(3, 10, 20, 0);
        x.offer(2, 20, 5, 9);
        x.offer(4, 5, 50, 2);
        nights(x, 1, 999, 4, 5, 20);
        nights(x, 3, 999, 1, 10, 30);
        nights(x, 3, 29, 2, 20, 10);
        nights(x, 5, 999, 6, 25, 30);
        nights(x, 5, 30, 6, 25, 30);
        nights(x, 6, 999, 3, 30, 40);
        nights(x, 7, 999, 9, 60, 35);
        nights(x, 8, 999, NONE, NONE, NONE);
        nights(x, 1, 4, NONE, NONE, NONE);
        nights(x, 1, 5, 8, 50, 5);
        x.offer(9, 99, 999, 16);
        nights(x, 16, 999, 25, 1059, 134);
        nights(x, 9, 99, 16, 999, 99);
    }

    private static void nightTies() {
        DUE.promise(46);
        BudgetHouse x = new BudgetHouse();
        x.offer(4, 30, 30, 0);
        x.offer(2, 10, 15, 0);
        x.offer(2, 10, 15, 0);
        x.offer(4, 20, 30, 0);
        x.offer(4, 20, 30, 0);
        nights(x, 4, 99, 6, 30, 20);
        nights(x, 1, 99, 2, 15, 10);
        nights(x, 8, 99, 14, 60, 40);
        x.offer(1, 1, 0, 0);
        nights(x, 4, 99, 6, 30, 20);
        nights(x, 5, 99, 38, 30, 21);
    }
}
