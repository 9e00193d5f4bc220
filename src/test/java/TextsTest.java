/** Promises 25 to 29: the tape, texts and their faults. */
public final class TextsTest {
    private static final int BAD = BudgetHouse.BAD, FULL = BudgetHouse.FULL, NONE = BudgetHouse.NONE;
    private static final Due DUE = new Due("TextsTest");

    public static void main(String[] args) {
        feed();
        trim();
        text();
        goodTexts();
        faults();
        deepTexts();
        worths();
        of();
        why();
        DUE.end();
    }

    private static void feed() {
        DUE.promise(25);
        BudgetHouse x = new BudgetHouse();
        for (int i = 1; i <= 8; i++) {
            DUE.is("feed, the " + i + ".", x.feed(0x20202020, 0x20202020, 0x20202020), 12 * i);
        }
        DUE.is("feed behind 96", x.feed(0, 0, 0), FULL);
        DUE.is("count(15)", x.count(15), 96);
        x.trim(85);
        DUE.is("feed behind 85", x.feed(0, 0, 0), FULL);
        DUE.is("count(15)", x.count(15), 85);
        x.trim(84);
        DUE.is("feed behind 84", x.feed(0x6d617920, 0x30202020, 0x20202020), 96);
        DUE.is("text(0): the bytes in their row", x.text(0), 0);
        DUE.is("of(0, 0)", x.of(0, 0), 1);
        x.feed(0x70617373, 0x20312620, 0x79ff8001);
        DUE.is("text(0): a byte above 127", x.text(0), -109);
    }

    private static void trim() {
        DUE.promise(26);
        BudgetHouse x = new BudgetHouse();
        DUE.is("trim(0)", x.trim(0), 0);
        DUE.is("trim(1)", x.trim(1), BAD);
        x.feed(0x6d617920, 0x31203220, 0);
        DUE.is("trim(13)", x.trim(13), BAD);
        DUE.is("trim(-1)", x.trim(-1), BAD);
        DUE.is("trim(12)", x.trim(12), 12);
        DUE.is("trim(5)", x.trim(5), 5);
        DUE.is("trim(6)", x.trim(6), BAD);
        DUE.is("count(15)", x.count(15), 5);
        DUE.is("text(0)", x.text(0), 0);
    }

    private static void text() {
        DUE.promise(27);
        BudgetHouse x = new BudgetHouse();
        Tapes.feed(x, "may 1");
        DUE.is("text(-1)", x.text(-1), BAD);
        DUE.is("count(15): used up", x.count(15), 0);
        Tapes.feed(x, "may");
        DUE.is("text(167): bad comes first", x.text(167), BAD);
        DUE.is("count(15): used up", x.count(15), 0);
        DUE.is("text(0) of nothing", x.text(0), -100);
        Tapes.feed(x, "maybe");
        DUE.is("text(0)", x.text(0), -100);
        DUE.is("count(15): used up", x.count(15), 0);
        for (int i = 0; i < 12; i++) {
            DUE.is("text, the " + i + ".", Tapes.text(x, "may 1", 166), i);
            DUE.is("count(15): used up", x.count(15), 0);
        }
        Tapes.feed(x, "may 1");
        DUE.is("text behind 12", x.text(0), FULL);
        DUE.is("count(15): used up", x.count(15), 0);
        DUE.is("a fault behind 12", Tapes.text(x, "may 1 1", 0), -106);
        DUE.is("a bad hour behind 12", Tapes.text(x, "may 1", 167), BAD);
        DUE.is("count(9)", x.count(9), 12);
    }

    private static void goodTexts() {
        DUE.promise(27);
        String[] good = {"pass y", "  pass  n  ", "pass(p)", "pass!k", "pass ( y+n )*p/k-1<2&3|4", "may k|h&c", "may(h)",
            "order k+v+o+l", "order k<v|o<l", "order(k<v)<(o<l)", "order k<(v<o)", "order (k<v)=o", "bind t*s",
            "bind 0000", "bind 9999", "pass !!y", "pass !(y)", "pass ! y", "pass !(!y)", "may ((((((((1))))))))",
            "may !!!!!!!!1", "may (1)+(2)", "may 1 + 2 * 3", "may !(!(!(!(!(!(!(!(1))))))))", "pass y>n&n>y",
            "pass !y<!n", "pass y|n|p|k", "pass y&n&p&k", "pass y-n-p", "pass y/n/p", "pass(((y)))|(((n)))"};
        for (String text : good) {
            DUE.is("text " + text, Tapes.text(new BudgetHouse(), text, 0), 0);
        }
    }

    /** Each text, and the place of its fault. */
    private static void faults() {
        DUE.promise(27);
        fault("", 0);
        fault("   ", 3);
        fault("pas", 0);
        fault("passes y", 0);
        fault(" y", 1);
        fault("Pass y", 0);
        fault("pass", 4);
        fault("pass  ", 6);
        fault("pass1", 4);
        fault("may12345", 3);
        fault("order1 v", 5);
        fault("passy", 0);
        fault("may 12345", 4);
        fault("may 00000", 4);
        fault("may 1+12345", 6);
        fault("may hh", 4);
        fault("may h1", 5);
        fault("may 1h", 5);
        fault("may h 1", 6);
        fault("may 1 h", 6);
        fault("may y", 4);
        fault("pass h", 5);
        fault("pass v", 5);
        fault("order y", 6);
        fault("order t", 6);
        fault("bind k", 5);
        fault("bind y", 5);
        fault("pass t", 5);
        fault("may -1", 4);
        fault("may +1", 4);
        fault("may *", 4);
        fault("may )", 4);
        fault("may ()", 5);
        fault("may (1", 6);
        fault("may (1  ", 8);
        fault("may 1)", 5);
        fault("may (1))", 7);
        fault("may 1(", 5);
        fault("may (1)(2)", 7);
        fault("may (1)2", 7);
        fault("may 1!", 5);
        fault("may !", 5);
        fault("may 1 !=2", 6);
        fault("may 1+", 6);
        fault("may 1++2", 6);
        fault("may 1<2<3", 7);
        fault("may 1<2=3", 7);
        fault("may 1+1>2*2>3", 11);
        fault("may (1<2>3)", 8);
        fault("may 1<(2<3)<4", 11);
        fault("may 1<=2", 6);
        fault("may 1||2", 6);
        fault("may 1&&2", 6);
        fault("may 1\t", 5);
        fault("may\n1", 3);
        fault("may K", 4);
        fault("may 1~2", 5);
        fault("may 1%2", 5);
        fault("may1 12345", 3);
        fault("pass y bind t", 7);
        fault("pass pass", 5);
        fault("pass y\u00e9", 6);
        fault("\u00e9pass y", 0);
        fault("pass `", 5);
        fault("pass {", 5);
        fault("pass /", 5);
        fault("pass :", 5);
    }

    private static void fault(String text, int place) {
        BudgetHouse x = new BudgetHouse();
        DUE.is("text " + text, Tapes.text(x, text, 0), -100 - place);
        DUE.is("count(9) behind " + text, x.count(9), 0);
        DUE.is("count(15) behind " + text, x.count(15), 0);
    }

    private static String times(String what, int n) {
        StringBuilder all = new StringBuilder();
        for (int i = 0; i < n; i++) {
            all.append(what);
        }
        return all.toString();
    }

    private static void deepTexts() {
        DUE.promise(27);
        fault("may " + times("(", 9) + "1" + times(")", 9), 12);
        fault("may " + times("!", 9) + "1", 12);
        fault("may " + times("!(", 8) + "!1" + times(")", 8), 20);
        fault("may " + times("(!", 8) + "(1)" + times(")", 8), 20);
        fault("may !!!!(1+!!!!(1+!1))", 18);
        fault("may " + times("(", 8) + "1" + times(")", 9), 21);
        String[] good = {"may " + times("!(", 8) + "1" + times(")", 8), "may " + times("!", 8) + "1+" + times("!", 8) + "1",
            "may " + times("(", 8) + "1" + times(")", 8) + "+" + times("(", 8) + "1" + times(")", 8),
            "may !!!!(!!!!1)+!!!!!!!!(2)", "may !!!!(!!!!1+!!!!1)", "may (((((((1)+(2)))))))"};
        for (String text : good) {
            DUE.is("text " + text, Tapes.text(new BudgetHouse(), text, 0), 0);
        }
        String longest = "may 1" + times("+1", 45) + " ";
        BudgetHouse x = new BudgetHouse();
        DUE.is("the longest text", Tapes.text(x, longest, 0), 0);
        DUE.promise(28);
        DUE.is("of(0, 2) of the longest text", x.of(0, 2), 46);
    }

    /** Works a text out by what becomes of a paper: pass with Y 1, N 2, P 4, KIND 1. */
    private static void worth(String e, boolean want) {
        BudgetHouse x = new BudgetHouse();
        x.member(0, 1);
        x.member(1, 1);
        x.member(1, 1);
        x.member(7, 1);
        x.paper(1, 0, 9);
        x.print(0, 0, 0);
        x.stance(0, 0, 1);
        x.stance(1, 0, -1);
        DUE.is("would(0, 0)", x.would(0, 0), 1);
        DUE.is("would(0, 1)", x.would(0, 1), 2);
        DUE.is("would(0, 2)", x.would(0, 2), 4);
        DUE.is("text pass " + e, Tapes.text(x, "pass " + e, 0), 0);
        DUE.is("would(0, 3) by " + e, x.would(0, 3), want ? 1 : 0);
    }

    private static void worths() {
        DUE.promise(27);
        worth("y=1&n=2&p=4&k=1", true);
        worth("2+3*4=14", true);
        worth("(2+3)*4=20", true);
        worth("20-3-2=15", true);
        worth("20-(3-2)=19", true);
        worth("100/7/2=7", true);
        worth("100/(7/2)=33", true);
        worth("2*9/4*2=8", true);
        worth("(0-7)/2=0-3", true);
        worth("7/0=0", true);
        worth("0/0=0", true);
        worth("(1<2)=1", true);
        worth("(2<1)=0", true);
        worth("(2>1)+(1>2)*10+(1=1)*100=101", true);
        worth("(1<1)+(1>1)=0", true);
        worth("!0=1&!1=0&!7=0", true);
        worth("!!7=1", true);
        worth("!y+1=1", true);
        worth("!(y+1)=0", true);
        worth("(5&7)=1", true);
        worth("(5&0)=0", true);
        worth("(0|7)=1", true);
        worth("(0|0)=0", true);
        worth("1|0&0", true);
        worth("(1|0)&0", false);
        worth("0&0|1", true);
        worth("1&2<1", false);
        worth("1+1<2", false);
        worth("0-1", true);
        worth("0", false);
        worth("7", true);
        worth("y-1", false);
        worth("9999*9999*22<0", true);
        worth("9999*9999*21>0", true);
        worth("9999*9999*21+9999*9999<0", true);
        worth("0-9999*9999*21-9999*9999>0", true);
        worth("0-8192*8192*32=8192*8192*32", true);
        worth("8192*8192*32<0", true);
        worth("8192*8192*32/(0-1)=8192*8192*32", true);
        worth("0012=12", true);
    }

    private static void of() {
        DUE.promise(28);
        BudgetHouse x = new BudgetHouse();
        DUE.is("of(0, 0)", x.of(0, 0), BAD);
        Tapes.text(x, "pass y+n*!(10-p)/2", 7);
        Tapes.text(x, "may 1", 166);
        Tapes.text(x, "order v", 0);
        Tapes.text(x, "bind (((t)))=s", 3);
        int[][] want = {{0, 7, 5}, {1, 166, 1}, {2, 0, 1}, {3, 3, 2}};
        for (int t = 0; t < 4; t++) {
            for (int what = 0; what < 3; what++) {
                DUE.is("of(" + t + ", " + what + ")", x.of(t, what), want[t][what]);
            }
        }
        DUE.is("of(0, 3)", x.of(0, 3), BAD);
        DUE.is("of(0, -1)", x.of(0, -1), BAD);
        DUE.is("of(4, 0)", x.of(4, 0), BAD);
        DUE.is("of(-1, 0)", x.of(-1, 0), BAD);
    }

    private static void why() {
        DUE.promise(29);
        BudgetHouse x = new BudgetHouse();
        DUE.is("why(-1)", x.why(-1), BAD);
        DUE.is("why(4)", x.why(4), BAD);
        Tapes.text(x, "order v", 1);
        Tapes.text(x, "pass y", 0);
        Tapes.text(x, "pass n", 2);
        Tapes.text(x, "pass p", 1);
        Tapes.text(x, "pass k", 1);
        DUE.is("why(0)", x.why(0), 1);
        DUE.is("why(1)", x.why(1), NONE);
        DUE.is("why(2): not in force yet", x.why(2), NONE);
        x.run(59);
        DUE.is("why(0), minute 59", x.why(0), 1);
        x.run(1);
        DUE.is("why(0): of like hours the greatest number", x.why(0), 4);
        DUE.is("why(2)", x.why(2), 0);
        x.clock(1);
        x.run(120);
        DUE.is("why(0): the clock is stopped", x.why(0), 4);
        x.clock(0);
        x.run(60);
        DUE.is("why(0), hour 2", x.why(0), 2);
        DUE.is("why(3)", x.why(3), NONE);
        Tapes.text(x, "bind t", 2);
        DUE.is("why(3)", x.why(3), 5);
        Tapes.text(x, "pass 1", 1);
        DUE.is("why(0): the latest hour counts, not the last text", x.why(0), 2);
    }
}
