/** Promises 47 to 51: numbers that wait, rows that are checked, images, counts. */
public final class ImagesTest {
    private static final int BAD = BudgetHouse.BAD, NO = BudgetHouse.NO, FULL = BudgetHouse.FULL,
        NONE = BudgetHouse.NONE;
    private static final Due DUE = new Due("ImagesTest");

    public static void main(String[] args) {
        tell();
        checkNight();
        checkTold();
        toldBehindTheLastMinute();
        keepAndBack();
        backBringsAll();
        backLeavesSome();
        newOnesBehindBack();
        count();
        DUE.end();
    }

    private static void tell() {
        DUE.promise(47);
        BudgetHouse x = new BudgetHouse();
        for (int i = 1; i <= 60; i++) {
            DUE.is("tell(" + -i + ")", x.tell(-i), i);
        }
        DUE.is("tell behind 60", x.tell(0), FULL);
        DUE.is("count(14)", x.count(14), 60);
        DUE.is("check(2, 0, 0)", x.check(2, 0, 0), BAD);
        DUE.is("count(14)", x.count(14), 0);
        DUE.is("tell(2147483647)", x.tell(Integer.MAX_VALUE), 1);
    }

    private static void rows(BudgetHouse x, int what, int n, int m, int want, int... numbers) {
        for (int v : numbers) {
            x.tell(v);
        }
        DUE.is("check(" + what + ", " + n + ", " + m + ") of " + numbers.length, x.check(what, n, m), want);
        DUE.is("count(14)", x.count(14), 0);
    }

    private static void checkNight() {
        DUE.promise(48);
        BudgetHouse x = new BudgetHouse();
        rows(x, 0, 1, 1, NONE, 1, 2);
        rows(x, 0, 0, 1, BAD, 1);
        rows(x, 0, 100, 1, BAD, 1);
        rows(x, 0, 1, 0, BAD, 1);
        rows(x, 0, 1, 1000, BAD, 1);
        rows(x, -1, 1, 1, BAD, 1);
        rows(x, 2, 1, 1, BAD, 1);
        x.offer(1, 1, 900, 0);
        x.offer(5, 9, 7, 0);
        x.offer(1, 1, 900, 0);
        x.offer(5, 9, 8, 0);
        x.offer(5, 9, 9, 0);
        rows(x, 0, 12, 99, 0, 1, 7, 3, 15, 4, 24);
        rows(x, 0, 12, 99, 1);
        rows(x, 0, 12, 99, 1, 0, 7, 3, 15, 4, 24);
        rows(x, 0, 12, 99, 2, 1, 8, 3, 15, 4, 24);
        rows(x, 0, 12, 99, 4, 1, 7, 3, 8, 4, 24);
        rows(x, 0, 12, 99, 6, 1, 7, 3, 15, 4);
        rows(x, 0, 12, 99, 7, 1, 7, 3, 15, 4, 24, 0);
        rows(x, 0, 12, 99, 7, 1, 7, 3, 15, 4, 24, 0, 0);
        rows(x, 0, 1, 9, 0, 1, 7);
        rows(x, 0, 1, 8, 0, 0, 900);
        for (int i = 0; i < 60; i++) {
            x.tell(i % 2 == 0 ? 1 : 7);
        }
        rows(x, 0, 1, 9, 3);
    }

    private static void checkTold() {
        DUE.promise(48);
        BudgetHouse x = new BudgetHouse();
        for (int i = 0; i < 5; i++) {
            x.member(i, 1);
        }
        x.paper(0, 0, 0);
        x.run(7);
        rows(x, 1, 1, 0, NO, 5, 0);
        rows(x, 1, 0, 0, BAD);
        rows(x, 1, 31, 0, BAD);
        x.train(0, 9);
        x.run(2);
        x.go(0, 1);
        x.train(1, 18);
        x.train(2, 19);
        x.train(3, 20);
        x.train(4, 11);
        x.go(4, 0);
        x.print(0, 0, 9);
        x.print(0, 0, 10);
        x.print(0, 0, 11);
        DUE.is("keep()", x.keep(), 9);
        rows(x, 1, 2, -5, 0, 2, 1, 1, 0);
        rows(x, 1, 1, 2000, 0, 2, 1);
        x.run(100);
        x.member(0, 0);
        x.print(0, 0, 9);
        rows(x, 1, 3, 0, 0, 2, 1, 1, 0, 1, 0);
        rows(x, 1, 3, 0, 4, 2, 1, 1, 1, 1, 0);
        rows(x, 1, 3, 0, 5, 2, 1, 1, 0);
        rows(x, 1, 3, 0, 7, 2, 1, 1, 0, 1, 0, 1);
        int[] longest = new int[60];
        for (int i = 0; i < 60; i++) {
            longest[i] = i == 0 ? 2 : i == 1 || i % 2 == 0 ? 1 : 0;
        }
        rows(x, 1, 30, 0, 0, longest);
        rows(x, 1, 29, 0, 59, longest);
    }

    private static void toldBehindTheLastMinute() {
        DUE.promise(48);
        BudgetHouse x = new BudgetHouse();
        x.member(0, 0);
        x.member(0, 0);
        x.paper(0, 0, 0);
        for (int i = 0; i < 41; i++) {
            x.run(240);
        }
        x.run(150);
        x.train(0, 9999);
        x.print(0, 0, 9);
        x.print(0, 0, 10);
        x.keep();
        rows(x, 1, 3, 0, 0, 1, 1, 1, 1, 1, 1);
    }

    private static void keepAndBack() {
        DUE.promise(49);
        BudgetHouse x = new BudgetHouse();
        DUE.promise(50);
        DUE.is("back()", x.back(), NO);
        x.run(3);
        DUE.promise(49);
        DUE.is("keep()", x.keep(), 3);
        x.run(4);
        DUE.promise(50);
        DUE.is("back()", x.back(), 3);
        x.run(5);
        DUE.is("back() again", x.back(), 3);
        DUE.is("count(16)", x.count(16), 3);
        x.run(5);
        DUE.promise(49);
        DUE.is("keep() again", x.keep(), 8);
        x.run(1);
        DUE.promise(50);
        DUE.is("back()", x.back(), 8);
    }

    private static BudgetHouse fullHouse() {
        BudgetHouse x = new BudgetHouse();
        x.member(3, 5);
        x.member(4, 1);
        x.member(5, 1);
        x.train(0, 900);
        x.pair(0, 1, 90);
        x.paper(1, 11, 40);
        x.paper(2, 0, 3);
        x.hung(0, 5, 1, 1);
        x.paper(6, 34, 1);
        x.stance(5, 0, 7);
        x.stance(5, 1, 7);
        x.print(0, 0, 0);
        x.print(0, 1, 5);
        x.print(1, 0, 0);
        Tapes.text(x, "order v", 0);
        x.income(5, 9);
        x.wish(2, 1);
        x.interpreter();
        x.speaks(0, 1, 2);
        x.speech(0, 1, 2);
        x.offer(1, 2, 3, 0);
        x.run(3);
        return x;
    }

    private static void changeAll(BudgetHouse x) {
        x.put(1);
        x.put(0);
        x.go(1, 0);
        x.train(0, NONE);
        x.breaks(0);
        x.pair(0, 2, 80);
        x.member(0, 0);
        x.paper(1, 0, 0);
        x.stance(5, 0, 1);
        Tapes.text(x, "order k", 0);
        x.income(1, 1);
        x.wish(2, 3);
        x.interpreter();
        x.speaks(0, 1, 3);
        x.speech(0, 1, NONE);
        x.speech(1, 1, 3);
        x.offer(9, 9, 0, 0);
        x.clock(1);
        x.run(50);
        x.print(0, 4, 9);
    }

    private static void sameFacts(String when, BudgetHouse x, BudgetHouse y) {
        for (int what = 0; what < 18; what++) {
            DUE.is("count(" + what + ") " + when, x.count(what), y.count(what));
        }
        for (int m = 0; m < 4; m++) {
            for (int what = 0; what < 6; what++) {
                DUE.is("is(" + m + ", " + what + ") " + when, x.is(m, what), y.is(m, what));
            }
        }
        for (int p = 0; p < 5; p++) {
            for (int what = 0; what < 10; what++) {
                DUE.is("told(" + p + ", " + what + ") " + when, x.told(p, what), y.told(p, what));
            }
        }
        DUE.is("row(0) " + when, x.row(0), y.row(0));
        DUE.is("why(2) " + when, x.why(2), y.why(2));
        DUE.is("balance(0) " + when, x.balance(0), y.balance(0));
        DUE.is("balance(1) " + when, x.balance(1), y.balance(1));
        DUE.is("heard(1) " + when, x.heard(1), y.heard(1));
        DUE.is("heard(2) " + when, x.heard(2), y.heard(2));
        DUE.is("night(1, 99, 0) " + when, x.night(1, 99, 0), y.night(1, 99, 0));
        DUE.is("breaks(0) " + when, x.breaks(0), y.breaks(0));
        DUE.is("clock(0) " + when, x.clock(0), y.clock(0));
        DUE.is("wish(2, 0) " + when, x.wish(2, 0), y.wish(2, 0));
        DUE.is("stance(5, 0, 0) " + when, x.stance(5, 0, 0), y.stance(5, 0, 0));
        DUE.is("speaks(0, 4, 5) " + when, x.speaks(0, 4, 5), y.speaks(0, 4, 5));
        DUE.is("run(2) " + when, x.run(2), y.run(2));
        DUE.is("told(0, 6) " + when, x.told(0, 6), y.told(0, 6));
    }

    private static void backBringsAll() {
        DUE.promise(50);
        BudgetHouse x = fullHouse();
        x.keep();
        changeAll(x);
        DUE.is("told(1, 3) ahead of back()", x.told(1, 3), 1);
        x.back();
        sameFacts("behind back()", x, fullHouse());
        x.back();
        sameFacts("behind back(), once more", x, fullHouse());
        BudgetHouse y = fullHouse();
        changeAll(y);
        x.back();
        changeAll(x);
        sameFacts("as it goes on from the image", x, y);
        DUE.promise(49);
        BudgetHouse z = fullHouse();
        z.keep();
        sameFacts("behind keep()", z, fullHouse());
    }

    private static void backLeavesSome() {
        DUE.promise(50);
        BudgetHouse x = new BudgetHouse();
        x.book(0, 0, 1);
        x.note(0, 0, 5);
        x.tell(1);
        Tapes.feed(x, "may");
        x.keep();
        x.note(0, 0, 6);
        x.book(1, 1, 2);
        x.tell(2);
        Tapes.feed(x, "may 1");
        x.back();
        DUE.is("looks(0, 0)", x.looks(0, 0), 6);
        DUE.is("looks(1, 1)", x.looks(1, 1), 0);
        DUE.is("count(14)", x.count(14), 2);
        DUE.is("count(15)", x.count(15), 5);
        DUE.is("text(0)", x.text(0), 0);
    }

    /** What stood in a place behind the image is not seen in what comes there. */
    private static void newOnesBehindBack() {
        DUE.promise(50);
        BudgetHouse x = fullHouse();
        x.keep();
        x.member(7, 1);
        x.paper(1, 0, 9);
        x.stance(7, 4, 9);
        x.print(4, 0, 0);
        x.print(4, 3, 30);
        x.train(3, 60);
        x.put(4);
        x.interpreter();
        x.speaks(1, 0, 3);
        x.run(60);
        x.keep();
        x.back();
        BudgetHouse y = fullHouse();
        y.keep();
        y.member(7, 1);
        y.paper(1, 0, 9);
        y.stance(7, 4, 9);
        y.print(4, 0, 0);
        y.train(3, 60);
        y.put(4);
        y.interpreter();
        y.speaks(1, 0, 3);
        y.run(60);
        y.back();
        y.member(6, 2);
        y.paper(0, 0, 0);
        int[] member = {6, 2, NONE, 1, NONE, 0};
        int[] paper = {0, 0, 0, 0, NONE, 0, 0, NONE, NONE, NONE};
        for (int what = 0; what < 6; what++) {
            DUE.is("is(3, " + what + ")", y.is(3, what), member[what]);
        }
        for (int what = 0; what < 10; what++) {
            DUE.is("told(4, " + what + ")", y.told(4, what), paper[what]);
        }
        DUE.is("stance(7, 4, 0)", y.stance(7, 4, 0), 0);
        y.interpreter();
        DUE.is("speaks(1, 1, 2)", y.speaks(1, 1, 2), 1);
        DUE.is("is(3, 0) of the later image", x.is(3, 0), 7);
        DUE.is("count(16) of the later image", x.count(16), 63);
    }

    private static void count() {
        DUE.promise(51);
        BudgetHouse x = fullHouse();
        x.go(2, 0);
        x.paper(7, 0, 0);
        x.paper(4, 0, 0);
        x.tell(5);
        x.feed(0, 0, 0);
        x.clock(1);
        x.run(1);
        counts(x, "of a full house", 3, 2, 1, 6, 6, 0, 0, 0, 0, 1, 1, 1, 1, 1, 1, 12, 4, 3);
        DUE.is("count(-1)", x.count(-1), BAD);
        DUE.is("count(18)", x.count(18), BAD);
        x.breaks(0);
        x.go(2, 1);
        x.put(1);
        x.paper(2, 0, 1);
        x.hung(0, 1, 1, 0);
        x.put(0);
        counts(x, "behind put()", 3, 3, 0, 8, 3, 4, 0, 1, 0, 1, 1, 1, 1, 1, 1, 12, 4, 3);
        x.rule(4);
        counts(x, "behind rule()", 3, 3, 0, 8, 1, 2, 0, 2, 3, 1, 1, 1, 1, 1, 1, 12, 4, 3);
        x.mend(0);
        x.put(6);
        x.stance(5, 0, -1);
        x.put(0);
        counts(x, "behind mend()", 3, 3, 0, 8, 0, 2, 2, 2, 2, 1, 1, 1, 1, 1, 1, 12, 4, 3);
        x.run(1);
        DUE.is("count(10): the sheet came", x.count(10), 0);
    }

    private static void counts(BudgetHouse x, String when, int... want) {
        for (int what = 0; what < 18; what++) {
            DUE.is("count(" + what + ") " + when, x.count(what), want[what]);
        }
    }
}
