/** Promises 1 to 9: members, pairs, trains, the clock, minutes. */
public final class MembersTest {
    private static final int BAD = BudgetHouse.BAD, NO = BudgetHouse.NO, FULL = BudgetHouse.FULL,
        NONE = BudgetHouse.NONE;
    private static final Due DUE = new Due("MembersTest");

    public static void main(String[] args) {
        newObject();
        member();
        is();
        train();
        go();
        pair();
        breaks();
        clock();
        run();
        DUE.end();
    }

    private static BudgetHouse houseOf(int members) {
        BudgetHouse x = new BudgetHouse();
        for (int i = 0; i < members; i++) {
            x.member(i % 9, 127);
        }
        return x;
    }

    private static void newObject() {
        DUE.promise(1);
        BudgetHouse x = new BudgetHouse();
        for (int what = 0; what < 18; what++) {
            DUE.is("count(" + what + ") of a new object", x.count(what), 0);
        }
        DUE.is("is(0, 0)", x.is(0, 0), BAD);
        DUE.is("told(0, 0)", x.told(0, 0), BAD);
        DUE.is("row(0)", x.row(0), NONE);
        DUE.is("first()", x.first(), NONE);
        DUE.is("back()", x.back(), NO);
        DUE.is("clock(0)", x.clock(0), 0);
        DUE.is("run(1)", x.run(1), 1);
        DUE.is("count(17)", x.count(17), 1);
        for (int key = 0; key < 4; key++) {
            DUE.is("why(" + key + ")", x.why(key), NONE);
        }
        for (int office = 0; office < 8; office++) {
            DUE.is("looks(" + office + ", 0)", x.looks(office, 0), BudgetHouse.NOTHING);
        }
        for (int party = 0; party < 9; party++) {
            DUE.is("wish(" + party + ", 0)", x.wish(party, 0), 0);
        }
        DUE.is("heard(8)", x.heard(8), 0);
        DUE.is("shift(8, 7)", x.shift(8, 7), NONE);
        DUE.is("night(1, 999, 0)", x.night(1, 999, 0), NONE);
    }

    private static void member() {
        DUE.promise(2);
        BudgetHouse x = new BudgetHouse();
        DUE.is("member(-1, 0)", x.member(-1, 0), BAD);
        DUE.is("member(9, 0)", x.member(9, 0), BAD);
        DUE.is("member(0, -1)", x.member(0, -1), BAD);
        DUE.is("member(0, 128)", x.member(0, 128), BAD);
        DUE.is("count(0)", x.count(0), 0);
        for (int i = 0; i < 20; i++) {
            DUE.is("member, the " + i + ".", x.member(i % 9, 127 - i), i);
        }
        DUE.is("member behind 20", x.member(0, 0), FULL);
        DUE.is("a bad member behind 20", x.member(9, 0), BAD);
        DUE.is("count(0)", x.count(0), 20);
        DUE.is("is(19, 0)", x.is(19, 0), 1);
        DUE.is("is(19, 1)", x.is(19, 1), 108);
        DUE.is("is(20, 0)", x.is(20, 0), BAD);
    }

    private static void is() {
        DUE.promise(3);
        BudgetHouse x = new BudgetHouse();
        x.member(8, 5);
        x.member(3, 127);
        DUE.is("is(0, 0)", x.is(0, 0), 8);
        DUE.is("is(0, 1)", x.is(0, 1), 5);
        DUE.is("is(0, 2)", x.is(0, 2), NONE);
        DUE.is("is(0, 3)", x.is(0, 3), 1);
        DUE.is("is(0, 4)", x.is(0, 4), NONE);
        DUE.is("is(0, 5)", x.is(0, 5), 0);
        DUE.is("is(0, 6)", x.is(0, 6), BAD);
        DUE.is("is(0, -1)", x.is(0, -1), BAD);
        DUE.is("is(-1, 0)", x.is(-1, 0), BAD);
        DUE.is("is(2, 0)", x.is(2, 0), BAD);
        x.pair(0, 1, 2);
        DUE.is("is(1, 4) in a pair", x.is(1, 4), 0);
        x.run(1);
        DUE.is("is(1, 4) in the last minute of a pair", x.is(1, 4), 0);
        x.run(1);
        DUE.is("is(1, 4) as the pair is over", x.is(1, 4), NONE);
        votesCounted();
    }

    private static void votesCounted() {
        BudgetHouse x = new BudgetHouse();
        x.member(0, 1);
        x.member(1, 1);
        x.member(2, 1);
        x.member(3, 2);
        x.member(0, 1);
        x.go(4, 0);
        for (int p = 0; p < 3; p++) {
            x.paper(1, 0, 10);
            x.print(p, 0, 0);
            x.stance(0, p, 9);
            x.stance(1, p, -9);
            x.stance(3, p, 9);
        }
        x.would(0, 0);
        DUE.is("is(0, 5) behind would()", x.is(0, 5), 0);
        x.put(0);
        DUE.is("is(0, 5), yes", x.is(0, 5), 1);
        DUE.is("is(1, 5), no", x.is(1, 5), 1);
        DUE.is("is(2, 5), no stance", x.is(2, 5), 0);
        DUE.is("is(3, 5), not read", x.is(3, 5), 0);
        DUE.is("is(4, 5), away", x.is(4, 5), 0);
        x.put(0);
        DUE.is("is(0, 5) behind a put that is refused", x.is(0, 5), 1);
        x.paper(6, 31, 1);
        x.pair(0, 1, 10);
        x.put(1);
        DUE.is("is(3, 5), bound by a deal", x.is(3, 5), 1);
        DUE.is("is(0, 5), in a pair", x.is(0, 5), 1);
    }

    private static void train() {
        DUE.promise(4);
        BudgetHouse x = houseOf(2);
        x.run(10);
        DUE.is("train(0, 10)", x.train(0, 10), BAD);
        DUE.is("train(0, 9)", x.train(0, 9), BAD);
        DUE.is("train(0, 10000)", x.train(0, 10000), BAD);
        DUE.is("train(2, 11)", x.train(2, 11), BAD);
        DUE.is("train(-1, 11)", x.train(-1, 11), BAD);
        DUE.is("train(0, -1)", x.train(0, -1), BAD);
        DUE.is("train(0, 9999)", x.train(0, 9999), NONE);
        DUE.is("train(0, 11)", x.train(0, 11), 9999);
        DUE.is("train(0, NONE)", x.train(0, NONE), 11);
        DUE.is("train(0, NONE)", x.train(0, NONE), NONE);
        x.run(1);
        DUE.is("is(0, 3): no train", x.is(0, 3), 1);
        x.train(0, 13);
        x.train(1, 12);
        x.run(1);
        DUE.is("is(0, 3) ahead of the train", x.is(0, 3), 1);
        DUE.is("is(1, 3) as the train leaves", x.is(1, 3), 0);
        DUE.is("is(1, 2) behind the train", x.is(1, 2), 12);
        x.go(1, 1);
        x.run(5);
        DUE.is("is(1, 3): the train left before", x.is(1, 3), 1);
        DUE.is("is(0, 3)", x.is(0, 3), 0);
        DUE.is("train(1, NONE) behind the train", x.train(1, NONE), 12);
    }

    private static void go() {
        DUE.promise(5);
        BudgetHouse x = houseOf(1);
        DUE.is("go(0, 2)", x.go(0, 2), BAD);
        DUE.is("go(0, -1)", x.go(0, -1), BAD);
        DUE.is("go(1, 1)", x.go(1, 1), BAD);
        DUE.is("go(-1, 1)", x.go(-1, 1), BAD);
        DUE.is("go(0, 1)", x.go(0, 1), 1);
        DUE.is("go(0, 0)", x.go(0, 0), 1);
        DUE.is("is(0, 3)", x.is(0, 3), 0);
        DUE.is("count(1)", x.count(1), 0);
        DUE.is("go(0, 0)", x.go(0, 0), 0);
        DUE.is("go(0, 1)", x.go(0, 1), 0);
        DUE.is("is(0, 3)", x.is(0, 3), 1);
    }

    private static void pair() {
        DUE.promise(6);
        BudgetHouse x = houseOf(4);
        x.run(5);
        DUE.is("pair(0, 0, 9)", x.pair(0, 0, 9), BAD);
        DUE.is("pair(-1, 0, 9)", x.pair(-1, 0, 9), BAD);
        DUE.is("pair(0, 4, 9)", x.pair(0, 4, 9), BAD);
        DUE.is("pair(4, 0, 9)", x.pair(4, 0, 9), BAD);
        DUE.is("pair(0, 1, 5)", x.pair(0, 1, 5), BAD);
        DUE.is("pair(0, 1, 10000)", x.pair(0, 1, 10000), BAD);
        DUE.is("pair(0, 1, 6)", x.pair(0, 1, 6), 0);
        DUE.is("pair(2, 1, 9)", x.pair(2, 1, 9), NO);
        DUE.is("pair(0, 2, 9)", x.pair(0, 2, 9), NO);
        DUE.is("pair(2, 0, 5): bad comes first", x.pair(2, 0, 5), BAD);
        DUE.is("count(2)", x.count(2), 1);
        x.run(1);
        DUE.is("count(2) as it is over", x.count(2), 0);
        DUE.is("pair(2, 1, 9999)", x.pair(2, 1, 9999), 1);
        for (int p = 2; p < 10; p++) {
            DUE.is("pair(0, 3, ..)", x.pair(0, 3, 7), p);
            x.breaks(p);
        }
        DUE.is("pair behind 10", x.pair(0, 3, 7), FULL);
        DUE.is("pair behind 10: no comes first", x.pair(0, 2, 7), NO);
        DUE.is("pair behind 10: bad comes first", x.pair(0, 0, 7), BAD);
        pairsDoNotVote();
    }

    private static void pairsDoNotVote() {
        BudgetHouse x = houseOf(4);
        x.paper(1, 0, 1);
        x.pair(1, 3, 7);
        DUE.is("would(0, 2) with a pair", x.would(0, 2), 2);
        x.go(1, 0);
        DUE.is("would(0, 2), one of the pair away", x.would(0, 2), 2);
        x.run(7);
        DUE.is("would(0, 2), the pair over", x.would(0, 2), 3);
    }

    private static void breaks() {
        DUE.promise(7);
        BudgetHouse x = houseOf(4);
        DUE.is("breaks(0)", x.breaks(0), BAD);
        x.pair(0, 1, 9);
        x.pair(2, 3, 3);
        DUE.is("breaks(-1)", x.breaks(-1), BAD);
        DUE.is("breaks(2)", x.breaks(2), BAD);
        DUE.is("breaks(0)", x.breaks(0), 1);
        DUE.is("breaks(0)", x.breaks(0), NO);
        DUE.is("is(0, 4)", x.is(0, 4), NONE);
        DUE.is("is(3, 4)", x.is(3, 4), 1);
        DUE.is("count(2)", x.count(2), 1);
        x.run(3);
        DUE.is("breaks(1), over", x.breaks(1), NO);
    }

    private static void clock() {
        DUE.promise(8);
        BudgetHouse x = new BudgetHouse();
        DUE.is("clock(2)", x.clock(2), BAD);
        DUE.is("clock(-1)", x.clock(-1), BAD);
        DUE.is("clock(1)", x.clock(1), 0);
        DUE.is("clock(1)", x.clock(1), 1);
        DUE.is("run(7)", x.run(7), 7);
        DUE.is("count(16)", x.count(16), 7);
        DUE.is("count(17)", x.count(17), 0);
        DUE.is("clock(0)", x.clock(0), 1);
        DUE.is("clock(0)", x.clock(0), 0);
        x.run(3);
        DUE.is("count(17)", x.count(17), 3);
    }

    private static void run() {
        DUE.promise(9);
        BudgetHouse x = houseOf(3);
        DUE.is("run(0)", x.run(0), BAD);
        DUE.is("run(-1)", x.run(-1), BAD);
        DUE.is("run(241)", x.run(241), BAD);
        DUE.is("run(240)", x.run(240), 240);
        x.paper(0, 0, 0);
        x.print(0, 0, 3);
        x.print(0, 1, 1);
        x.print(0, 2, 2);
        x.print(0, 3, 3);
        x.train(0, 242);
        DUE.is("run(1)", x.run(1), 241);
        DUE.is("told(0, 6)", x.told(0, 6), 2);
        DUE.is("count(10)", x.count(10), 3);
        DUE.is("is(0, 3)", x.is(0, 3), 1);
        DUE.is("run(1)", x.run(1), 242);
        DUE.is("told(0, 6)", x.told(0, 6), 6);
        DUE.is("is(0, 3)", x.is(0, 3), 0);
        DUE.is("count(1)", x.count(1), 2);
        DUE.is("run(2)", x.run(2), 244);
        DUE.is("told(0, 6)", x.told(0, 6), 15);
        DUE.is("count(10)", x.count(10), 0);
        toTheLastMinute();
    }

    private static void toTheLastMinute() {
        BudgetHouse x = houseOf(1);
        for (int i = 1; i <= 41; i++) {
            DUE.is("run(240)", x.run(240), 240 * i);
        }
        DUE.is("run(160)", x.run(160), FULL);
        DUE.is("run(241) is bad first", x.run(241), BAD);
        DUE.is("run(150)", x.run(150), 9990);
        x.paper(0, 0, 0);
        x.print(0, 4, 9);
        x.print(0, 5, 10);
        DUE.is("count(10)", x.count(10), 2);
        DUE.is("run(10)", x.run(10), FULL);
        DUE.is("count(16)", x.count(16), 9990);
        DUE.is("run(9)", x.run(9), 9999);
        DUE.is("count(17)", x.count(17), 9999);
        DUE.is("told(0, 6)", x.told(0, 6), 16);
        DUE.is("count(10): it never comes", x.count(10), 1);
        DUE.is("run(1)", x.run(1), FULL);
        DUE.is("train(0, 10000)", x.train(0, 10000), BAD);
        DUE.is("text(166) of nothing", x.text(166), -100);
    }
}
