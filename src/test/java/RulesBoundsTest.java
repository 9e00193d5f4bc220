/** The bounds that "Terms", 3, names: TEXTS, THE TAPE, words, FAULTS, depth, Ints, HOURS, THE ROW, BINDING SUM. */
public final class RulesBoundsTest {
    private static final int NONE = BudgetHouse.NONE, FULL = BudgetHouse.FULL;
    private static final String[] KEYS = {"pass", "may", "order", "bind"};
    private static final String[] NAMES = {"ynpk", "khc", "kvol", "ts"};
    /** The ends of the Ints as a TEXT works them out: the product is one above the greatest, so it wraps. */
    private static final String LEAST = "8192*8192*32", GREATEST = "(8192*8192*32-1)";
    private static final Due DUE = new Due("RulesBoundsTest");

    public static void main(String[] args) {
        twelveTexts();
        tape();
        tapeIsUsedUp();
        wholeTape();
        numbers();
        names();
        bytes();
        blanks();
        keys();
        ends();
        tests();
        ninths();
        operands();
        faultsLeaveNothing();
        intsOfPass();
        intsOfMay();
        intsOfOrder();
        intsOfBind();
        hours();
        latestHour();
        withoutTexts();
        row();
        rowOfForty();
        bindingSum();
        DUE.end();
    }

    private static void sentence(String words) {
        DUE.sentence("Terms 3", words);
    }

    private static void due(BudgetHouse x, String... rows) {
        Calls.due(DUE, x, rows);
    }

    private static String times(String what, int n) {
        StringBuilder all = new StringBuilder();
        for (int i = 0; i < n; i++) {
            all.append(what);
        }
        return all.toString();
    }

    private static void good(String text) {
        BudgetHouse x = new BudgetHouse();
        DUE.is("text \"" + text + "\"", Tapes.text(x, text, 0), 0);
        DUE.is("count(9) behind \"" + text + "\"", x.count(9), 1);
    }

    private static void fault(String text, int place) {
        BudgetHouse x = new BudgetHouse();
        DUE.is("text \"" + text + "\"", Tapes.text(x, text, 0), -100 - place);
        DUE.is("count(9) behind \"" + text + "\"", x.count(9), 0);
    }

    private static void twelveTexts() {
        sentence("TEXTS, 12 at most, numbered from 0");
        BudgetHouse x = new BudgetHouse();
        for (int t = 0; t < 12; t++) {
            String e = times("1+", t) + "1";
            DUE.is("text, the " + t + ".", Tapes.text(x, KEYS[t % 4] + " " + e, t * 15), t);
        }
        due(x, "count(9) = 12", "'may 1' from 0 = FULL", "count(9) = 12", "of(12, 0) = BAD");
        for (int t = 0; t < 12; t++) {
            DUE.is("of(" + t + ", 0)", x.of(t, 0), t % 4);
            DUE.is("of(" + t + ", 1)", x.of(t, 1), t * 15);
            DUE.is("of(" + t + ", 2)", x.of(t, 2), t + 1);
        }
        sentence("TEXTS, 12 at most: the last one counts, too");
        for (int key = 0; key < 4; key++) {
            BudgetHouse y = new BudgetHouse();
            for (int t = 0; t < 11; t++) {
                Tapes.text(y, KEYS[key] + " 1", 0);
            }
            DUE.is("why(" + key + ")", y.why(key), 10);
            DUE.is("text, the 11.", Tapes.text(y, KEYS[key] + " 0", 0), 11);
            DUE.is("why(" + key + ")", y.why(key), 11);
        }
    }

    private static void tape() {
        sentence("THE TAPE (96 bytes at most)");
        BudgetHouse x = new BudgetHouse();
        due(x, "count(15) = 0", "trim(0) = 0", "trim(1) = BAD");
        for (int i = 1; i <= 8; i++) {
            DUE.is("feed, the " + i + ".", x.feed(0x20202020, 0x20202020, 0x20202020), 12 * i);
        }
        due(x, "feed(0, 0, 0) = FULL", "count(15) = 96", "trim(96) = 96", "trim(97) = BAD", "trim(85) = 85",
            "feed(0, 0, 0) = FULL", "count(15) = 85", "trim(84) = 84", "feed(0, 0, 0) = 96", "trim(12) = 12",
            "trim(13) = BAD", "trim(-1) = BAD", "trim(0) = 0", "count(15) = 0");
        DUE.sentence("Promise 25", "Twelve bytes come to THE TAPE, the highest of each number first");
        // "pass", " y>n", "&!k " and "pass", " y>n", "&!k\377": a byte above 127 is a sign by itself.
        due(x, "feed(1885434739, 544816750, 639724320) = 12", "text(0) = 0", "of(0, 2) = 3",
            "feed(1885434739, 544816750, 639724543) = 12", "text(0) = -111", "feed(-1, -1, -1) = 12", "text(0) = -100");
    }

    private static void tapeIsUsedUp() {
        sentence("an act that reads it uses it up, whatever it answers");
        BudgetHouse x = new BudgetHouse();
        for (String call : new String[] {"'may 1' from 0", "'may 1' from 166", "'may 1' from 167", "'may 1' from -1",
            "'may' from 0", "'' from 0", "'1' from 0", "'may 1 1' from 5"}) {
            Calls.ask(x, call);
            due(x, "count(15) = 0", "text(0) = -100", "count(15) = 0");
        }
        while (x.count(9) < 12) {
            Calls.ask(x, "'may 1' from 0");
        }
        due(x, "'may 1' = 5", "count(15) = 5", "text(0) = FULL", "count(15) = 0", "text(0) = -100", "count(9) = 12");
    }

    private static void wholeTape() {
        sentence("THE TAPE (96 bytes at most): a TEXT of 96 bytes");
        good("may 1" + times("+1", 45) + " ");
        good(times(" ", 91) + "may 1");
        good("may " + times(" ", 91) + "1");
        good("may 1" + times(" ", 91));
        good("bind t" + times("|s", 45));
        fault("may 1" + times("+1", 45) + "+", 96);
        fault("may 1" + times("+1", 45) + ")", 95);
        fault(times(" ", 96), 96);
        fault(times(" ", 93) + "may", 96);
        fault("may " + times(" ", 91) + "(", 96);
        sentence("a TEXT of 96 bytes is worked out whole");
        BudgetHouse x = new BudgetHouse();
        due(x, "paper(1, 0, 5) = 0");
        DUE.is("text", Tapes.text(x, "pass 1" + times("+1", 41) + "=42    ", 0), 0);
        due(x, "would(0, 3) = 1");
        DUE.is("text", Tapes.text(x, "pass 1" + times("+1", 41) + "=41    ", 0), 1);
        due(x, "would(0, 3) = 0");
        DUE.is("text", Tapes.text(x, "pass " + times("0|", 44) + "0|1", 0), 2);
        due(x, "would(0, 3) = 1");
        DUE.is("text", Tapes.text(x, "pass 1|" + times("0&", 44) + "0", 0), 3);
        due(x, "would(0, 3) = 1");
    }

    private static void numbers() {
        sentence("NUMBER (1 to 4 digits)");
        for (String n : new String[] {"0", "9", "00", "10", "99", "000", "100", "999", "0000", "0001", "1000",
            "9999"}) {
            good("may " + n);
            BudgetHouse x = new BudgetHouse();
            x.paper(1, 0, 5);
            int v = Integer.parseInt(n);
            Tapes.text(x, "pass " + n + " = " + v / 100 + "*100+" + v % 100, 0);
            DUE.is("would(0, 3) by " + n, x.would(0, 3), 1);
        }
        for (String n : new String[] {"00000", "10000", "99999", "000000", "123456789012", "4294967297"}) {
            fault("may " + n, 4);
            fault("may (" + n + ")", 5);
            fault("may 1+ " + n, 7);
            fault("may!" + n, 4);
        }
        fault("may 9999 9", 9);
        fault("may 99 99", 7);
    }

    private static void names() {
        sentence("NAMES, each one letter: of pass y, n, p, k; of may k, h, c; of order k, v, o, l; of bind t, s");
        for (int key = 0; key < 4; key++) {
            String begin = KEYS[key] + " ";
            for (char c = 'a'; c <= 'z'; c++) {
                if (NAMES[key].indexOf(c) >= 0) {
                    good(begin + c);
                    good(begin + "1+" + c);
                    fault(begin + c + c, begin.length());
                } else {
                    fault(begin + c, begin.length());
                    fault(begin + "1+" + c, begin.length() + 2);
                }
                fault(begin + "1 " + c, begin.length() + 2);
                fault(begin + "1" + c, begin.length() + 1);
            }
        }
    }

    /** Each byte where a PART is due, where a sign is due, and ahead of all. */
    private static void bytes() {
        sentence("A word is a row of letters a .. z, or of digits, as long as it goes; any other byte is a sign by "
            + "itself");
        for (int b = 0; b < 256; b++) {
            char c = (char) b;
            BudgetHouse x = new BudgetHouse();
            boolean digit = c >= '0' && c <= '9';
            DUE.is("byte " + b + " as a part", Tapes.text(x, "may " + c, 0),
                digit || c == 'k' || c == 'h' || c == 'c' ? 0 : c == '(' || c == '!' || c == ' ' ? -105 : -104);
            boolean joins = "|&<=>+-*/".indexOf(c) >= 0;
            DUE.is("byte " + b + " as a sign", Tapes.text(new BudgetHouse(), "may h" + c + "1", 0),
                joins ? 0 : c == ' ' ? -106 : c >= 'a' && c <= 'z' ? -104 : -105);
            DUE.is("byte " + b + " behind all", Tapes.text(new BudgetHouse(), "may (h)" + c, 0),
                c == ' ' ? 0 : joins ? -108 : -107);
            DUE.is("byte " + b + " ahead of all", Tapes.text(new BudgetHouse(), c + "may 1", 0), c == ' ' ? 0 : -100);
            DUE.is("byte " + b + " behind the key", Tapes.text(new BudgetHouse(), "may" + c + "1", 0),
                c == ' ' || c == '!' ? 0 : c == '(' ? -105 : c >= 'a' && c <= 'z' ? -100 : -103);
        }
    }

    private static void blanks() {
        sentence("Between words and signs, and at the ends, there may be blanks (byte 32); a word right behind "
            + "another one needs one");
        good("may 1");
        good("  may   ( 1  +  !  h  )  *  2   ");
        good("may(1+!h)*2");
        good("may!1");
        fault("may1", 3);
        fault("may 1h", 5);
        fault("may h1", 5);
        fault("may 1 h", 6);
        fault("may h 1", 6);
        fault("may k h", 6);
        fault("may 1 1", 6);
        fault("pass1y", 4);
        fault("order0v", 5);
        fault("  bind9", 6);
        fault("may\t1", 3);
        fault("may 1\n", 5);
        fault("may\u00a01", 3);
        fault("may 1\u0000", 5);
    }

    private static void keys() {
        sentence("KEY: pass | may | order | bind");
        for (int key = 0; key < 4; key++) {
            BudgetHouse x = new BudgetHouse();
            DUE.is("text " + KEYS[key], Tapes.text(x, KEYS[key] + " 1", 0), 0);
            DUE.is("of(0, 0) of " + KEYS[key], x.of(0, 0), key);
            DUE.is("why(" + key + ")", x.why(key), 0);
            for (int other = 0; other < 4; other++) {
                DUE.is("why(" + other + ") by " + KEYS[key], x.why(other), other == key ? 0 : NONE);
            }
            for (int i = 0; i < KEYS[key].length(); i++) {
                fault(KEYS[key].substring(0, i) + " 1", i == 0 ? 1 : 0);
                fault(KEYS[key].substring(0, i) + "z" + KEYS[key].substring(i + 1) + " 1", 0);
                fault(KEYS[key].substring(0,
                    i) + Character.toUpperCase(KEYS[key].charAt(i)) + KEYS[key].substring(i + 1) + " 1", 0);
            }
            fault(KEYS[key] + "s 1", 0);
            fault(KEYS[key] + KEYS[key] + " 1", 0);
            fault(KEYS[key] + " " + KEYS[key] + " 1", KEYS[key].length() + 1);
        }
        fault("1", 0);
        fault(" (pass y)", 1);
        fault("1 pass y", 0);
    }

    private static void ends() {
        sentence("the end (the place behind the last byte), if it comes too soon");
        for (String text : new String[] {"", " ", "   ", "may", "may ", "may   ", "may !", "may (", "may ( ", "may (1",
            "may (1 ", "may 1+", "may 1+ ", "may 1-", "may 1*", "may 1/", "may 1<", "may 1=", "may 1>", "may 1&",
            "may 1|", "may ((1)", "may !(", "may (1+", "may !!!!!!!!", "may ((((((((", "may ((((((((1", "bind t<"}) {
            fault(text, text.length());
        }
        sentence("the first byte of the first word or sign with which no TEXT goes on");
        fault("may )", 4);
        fault("may ()", 5);
        fault("may 1)", 5);
        fault("may (1))", 7);
        fault("may (1)(", 7);
        fault("may (1)1", 7);
        fault("may (1)h", 7);
        fault("may (1)!", 7);
        fault("may 1!1", 5);
        fault("may +1", 4);
        fault("may -1", 4);
        fault("may 1+-1", 6);
        fault("may 1*/1", 6);
        fault("may 1&|1", 6);
        fault("may 1==1", 6);
        fault("may 1!=1", 5);
        fault("may 1<>1", 6);
        fault("may 1<=1", 6);
        fault("may (+1)", 5);
        fault("may (1+)", 7);
        fault("may 1,1", 5);
        fault("may [1]", 4);
        fault("may 1;", 5);
        fault("may 1 may 1", 6);
    }

    private static void tests() {
        sentence("TEST: SUM [ (< | = | >) SUM ]");
        for (String one : new String[] {"<", "=", ">"}) {
            good("may 1" + one + "2");
            good("may 1+1" + one + "2*2");
            good("may 1" + one + "2&3" + one + "4");
            good("may 1" + one + "2|3" + one + "4");
            good("may (1" + one + "2)" + one + "3");
            good("may 1" + one + "(2" + one + "3)");
            good("may !(1" + one + "2)=!3");
            for (String other : new String[] {"<", "=", ">"}) {
                fault("may 1" + one + "2" + other + "3", 7);
                fault("may 1" + one + "2+2" + other + "3", 9);
                fault("may 1" + one + "2*2-1" + other + "3", 11);
                fault("may (1" + one + "2" + other + "3)", 8);
                fault("may 1&1" + one + "2" + other + "3", 9);
                fault("may 1" + one + "(2)" + other + "3", 9);
                fault("may 1" + one + "!2" + other + "3", 8);
            }
        }
    }

    private static void ninths() {
        sentence("the ninth ( that would be open within others, the ninth ! likewise (through ( ), too), each by "
            + "itself");
        for (int n = 1; n < 12; n++) {
            String[] deep = {times("(", n) + "1" + times(")", n), times("!", n) + "1", times("!(", n) + "1" + times(")",
                n), times("(!", n) + "1" + times(")", n)};
            for (int i = 0; i < 4; i++) {
                if (n < 9) {
                    good("may " + deep[i]);
                    good("may 1+" + deep[i] + "*2");
                } else {
                    int steps = i < 2 ? 8 : 16;
                    // Of (! the ninth ( comes first.
                    fault("may " + deep[i], 4 + steps);
                    fault("may 1+" + deep[i], 6 + steps);
                }
            }
        }
        String open = times("(", 8);
        String close = times(")", 8);
        String nots = times("!", 8);
        good("may " + open + "1" + close + "+" + open + "1" + close);
        good("may " + nots + "1+" + nots + "1");
        good("may " + nots + open + "1" + close + "*" + nots + open + "1" + close);
        good("may !!!!!!!!(1)+!!!!!!!!(1+1)");
        good("may !!!!(!!!!1+!!!!(1))");
        good("may (((((((1)))))))+((((((((1))))))))");
        good("may (((((((1)+(1)))))))");
        fault("may " + open + "1)+((1", 16);
        fault("may " + open + "1" + times(")", 7) + "+((1))", 26);
        fault("may " + open + "1" + times(")", 6) + "+(((((((1", 26);
        fault("may " + times("!", 4) + "(" + times("!", 4) + "(!1))", 14);
        fault("may !!!!(!!!!1+!!!!!1)", 19);
        fault("may !(1+!(1+!(1+!(1+!(1+!(1+!(1+!(1+!1))))))))", 36);
        fault("may (1+(1+(1+(1+(1+(1+(1+(1+(1)))))))))", 28);
        fault("may " + open + "1" + close + ")", 21);
        fault("may " + nots + "!", 12);
        fault("may " + open + "(", 12);
    }

    private static void operands() {
        DUE.sentence("Promise 28", "2 how many NUMBERS and NAMES it has");
        String[] texts = {"may 1", "may h", "may (((1)))", "may !!!h", "may 1+1", "may h+h*h-h/h", "may 1<2&3>4|5=6",
            "may 1111+0000"};
        int[] want = {1, 1, 1, 1, 2, 5, 6, 2};
        BudgetHouse x = new BudgetHouse();
        for (int t = 0; t < texts.length; t++) {
            DUE.is("text " + texts[t], Tapes.text(x, texts[t], t * 20), t);
            DUE.is("of(" + t + ", 2)", x.of(t, 2), want[t]);
            DUE.is("of(" + t + ", 1)", x.of(t, 1), t * 20);
        }
        BudgetHouse y = new BudgetHouse();
        Tapes.text(y, "bind t" + times("*s", 45), 166);
        due(y, "of(0, 2) = 46", "of(0, 1) = 166", "of(0, 0) = 3");
        // A text with a fault, or one that is refused, leaves nothing to the next one.
        due(y, "'may ((((1+1' from 0 = -111", "'may !!!!!!!!' from 0 = -112", "'may 1+2*3<' from 0 = -110",
            "'may 7' from 0 = 1", "of(1, 2) = 1", "'may ((((((((1))))))))' from 0 = 2", "'may !!!!!!!!1' from 0 = 3",
            "of(3, 2) = 1");
    }

    private static void worth(String e, boolean want) {
        BudgetHouse x = new BudgetHouse();
        x.member(0, 1);
        x.paper(1, 0, 5);
        x.paper(6, 1, 0);
        DUE.is("text pass " + e, Tapes.text(x, "pass " + e, 0), 0);
        DUE.is("would(0, 3) by pass " + e, x.would(0, 3), want ? 1 : 0);
        DUE.is("put(0) by pass " + e, x.put(0), want ? 1 : 0);
    }

    private static void faultsLeaveNothing() {
        sentence("FAULT: .. (nothing of such a TEXT is left to the next one)");
        for (String sign : new String[] {"|", "&", "<", "=", ">", "+", "-", "*", "/"}) {
            for (String e : new String[] {"7", "7=7", "0", "0-7", "!0", "(7)"}) {
                BudgetHouse x = new BudgetHouse();
                x.paper(1, 0, 5);
                DUE.is("text pass 1" + sign, Tapes.text(x, "pass 1" + sign, 0), -107);
                DUE.is("text pass ((1" + sign + ")", Tapes.text(x, "pass ((1" + sign + ")", 0), -109);
                DUE.is("text pass 2" + sign + "!(1", Tapes.text(x, "pass 2" + sign + "!(1", 0), -110);
                DUE.is("text pass " + e, Tapes.text(x, "pass " + e, 0), 0);
                DUE.is("would(0, 3) by pass " + e + " behind a fault", x.would(0, 3), e.equals("0") ? 0 : 1);
            }
        }
    }

    private static void intsOfPass() {
        sentence("Ints wrap; / is 0 by 0; tests, & | ! give 1 or 0 (what is not 0 is true; both sides are worked out)");
        worth(LEAST + "<0", true);
        worth(GREATEST + ">0", true);
        worth(GREATEST + "+1=" + LEAST, true);
        worth(LEAST + "-1=" + GREATEST, true);
        worth(LEAST + "<" + GREATEST, true);
        worth(LEAST + ">" + GREATEST, false);
        worth(GREATEST + ">" + LEAST, true);
        worth("0-" + LEAST + "=" + LEAST, true);
        worth(LEAST + "/(0-1)=" + LEAST, true);
        worth(LEAST + "*(0-1)=" + LEAST, true);
        worth(GREATEST + "*2=0-2", true);
        worth(LEAST + "*2=0", true);
        worth("8192*8192*64", false);
        worth(LEAST, true);
        worth(GREATEST, true);
        worth(LEAST + "/9999/9999", true);
        worth("1/0=0", true);
        worth("0/0=0", true);
        worth("(0-1)/0=0", true);
        worth(LEAST + "/0=0", true);
        worth("1/0", false);
        worth("1/(y-1)", false);
        worth("7/2=3", true);
        worth("(0-7)/2=0-3", true);
        worth("7/(0-2)=0-3", true);
        worth("(0-7)/(0-2)=3", true);
        worth("1/2", false);
        worth("(3<4)+(4>3)+(3=3)=3", true);
        worth("(3>4)+(4<3)+(3=4)=0", true);
        worth("(3<3)+(3>3)=0", true);
        worth("(5&7)=1", true);
        worth("(5|0)+(0|5)+(5|5)=3", true);
        worth("(0|0)+(0&5)+(5&0)+(0&0)=0", true);
        worth("(0-1&0-5)=1", true);
        worth("!0=1", true);
        worth("!5=0", true);
        worth("!(0-1)=0", true);
        worth("!!5=1", true);
        worth("1|1/0", true);
        worth("0&1/0", false);
        worth("y=1&n=0&p=1&k=1", true);
        loosest();
    }

    private static void loosest() {
        sentence("E, the loosest first: OR, AND, TEST, SUM, TERM, PART; rows of like signs from the left");
        worth("1|1&0", true);
        worth("0&1|1", true);
        worth("1|0&0", true);
        worth("0&0|0", false);
        worth("(1|1)&0", false);
        worth("1=1&0=0", true);
        worth("0&1=0", false);
        worth("1<2|0", true);
        worth("0|2<1", false);
        worth("1+1=2", true);
        worth("1+2*3=7", true);
        worth("8-2-3=3", true);
        worth("8-(2-3)=9", true);
        worth("64/4/2=8", true);
        worth("64/(4/2)=32", true);
        worth("7/2*2=6", true);
        worth("2*7/2=7", true);
        worth("2-1+1=2", true);
        worth("!1+1=1", true);
        worth("!0*5=5", true);
        worth("!(1+1)=0", true);
        fault("pass 2<3=1", 8);
    }

    private static void intsOfMay() {
        sentence("Ints wrap (may: what is not 0 lets it)");
        String[] es = {LEAST, GREATEST, "0-1", "2", "8192*8192*64", "0", GREATEST + "+1-" + LEAST, "h", "c", "k-1", "k",
            "1-k"};
        boolean[] want = {true, true, true, true, false, false, false, false, false, false, true, false};
        for (int i = 0; i < es.length; i++) {
            BudgetHouse x = new BudgetHouse();
            x.paper(1, 0, 5);
            DUE.is("text may " + es[i], Tapes.text(x, "may " + es[i], 0), 0);
            DUE.is("put(0) by may " + es[i], x.put(0), want[i] ? 0 : BudgetHouse.NO);
        }
        sentence("of may k KIND, h the HOUR, c THE CLOCK's rest by 60");
        BudgetHouse x = new BudgetHouse();
        due(x, "paper(1, 0, 5) = 0", "paper(2, 0, 5) = 1", "hung(0, 5, 1, 0) = 2", "'may k = 3' from 0 = 0",
            "put(0) = NO", "put(1) = NO", "put(2) = 0", "'may k = 2' from 0 = 1", "put(0) = NO", "put(1) = 0",
            "'may h = 1 & c = 59' from 0 = 2", "run(118) = 118", "put(0) = NO", "run(1) = 119", "paper(1, 0, 5) = 3",
            "put(3) = 0", "run(1) = 120", "put(0) = NO", "'may h = 2 & c = 0' from 0 = 3", "put(0) = 0");
        sentence("h the HOUR, c THE CLOCK's rest by 60 (not the MINUTE's)");
        BudgetHouse y = new BudgetHouse();
        due(y, "paper(1, 0, 5) = 0", "paper(1, 0, 5) = 1", "paper(1, 0, 5) = 2", "'may h = 0 & c = 59' from 0 = 0",
            "run(59) = 59", "clock(1) = 0", "run(7) = 66", "put(0) = 0", "clock(0) = 1", "run(1) = 67", "put(1) = NO",
            "'may h = 1 & c = 0' from 0 = 1", "put(1) = 0", "run(53) = 120", "put(2) = NO",
            "'may h = 1 & c = 53' from 0 = 2", "put(2) = 0");
    }

    private static void rowIs(BudgetHouse x, String text, int... want) {
        DUE.holds("text " + text + " is read", Tapes.text(x, text, 0) >= 0);
        for (int i = 0; i < want.length; i++) {
            DUE.is("row(" + i + ") by " + text, x.row(i), want[i]);
        }
        DUE.is("row(" + want.length + ") by " + text, x.row(want.length), NONE);
    }

    private static void intsOfOrder() {
        sentence("Ints wrap (order: the greater first, from the least Int to the greatest)");
        BudgetHouse x = new BudgetHouse();
        due(x, "paper(1, 0, 5) = 0", "paper(2, 0, 1) = 1", "paper(2, 0, 2) = 2", "paper(2, 0, 3) = 3",
            "paper(2, 0, -9999) = 4", "paper(2, 0, 9999) = 5");
        rowIs(x, "order v", 5, 3, 2, 1, 4);
        rowIs(x, "order 0-v", 4, 1, 2, 3, 5);
        rowIs(x, "order " + LEAST + "-(v=2)", 2, 1, 3, 4, 5);
        rowIs(x, "order " + GREATEST + "+(v=2)", 1, 3, 4, 5, 2);
        rowIs(x, "order (v=1)*" + GREATEST + "+(v=3)*" + LEAST, 1, 2, 4, 5, 3);
        rowIs(x, "order v*v*9999", 3, 2, 1, 4, 5);
        rowIs(x, "order v/0", 1, 2, 3, 4, 5);
        sentence("of order k KIND, v MORE, o the LINE's OFFICE, l its LAND");
        BudgetHouse y = new BudgetHouse();
        due(y, "paper(1, 3, 5) = 0", "paper(1, 73, 5) = 1", "paper(1, 70, 5) = 2", "paper(1, 9, 5) = BAD",
            "paper(2, 0, 5) = 3", "paper(2, 1, 5) = 4", "paper(2, 2, 5) = 5", "hung(2, 5, 3, 0) = 6");
        rowIs(y, "order o", 4, 5, 6, 3);
        rowIs(y, "order l", 3, 4, 5, 6);
        rowIs(y, "order 0-l", 5, 6, 3, 4);
        rowIs(y, "order 10*o+l", 4, 5, 6, 3);
        rowIs(y, "order k", 6, 3, 4, 5);
        rowIs(y, "order k=2", 3, 4, 5, 6);
        rowIs(y, "order o=7&l=0", 5, 6, 3, 4);
        rowIs(y, "order o=0&l=3", 3, 4, 5, 6);
        rowIs(y, "order o=7&l=3", 4, 3, 5, 6);
    }

    private static void intsOfBind() {
        sentence("Ints wrap (bind: the greatest E, from the least Int to the greatest)");
        String[] es = {"t", "s", "0-s", "t=0", "t=1", "t=2", "t=6", "t=6&s>0", "t=6&s=9999", LEAST + "+(t=2)",
            LEAST + "-(t=2)", GREATEST + "+(t<2)", GREATEST + "-(t=0)", "(t=0)*" + LEAST + "+(t=1)*" + GREATEST, "0",
            "1/0", "s=52", "t*s*9999", "0-t*t", "t>6", "t<6"};
        int[] want = {0, 9999, 0, 50, 51, 52, 0, 9999, 9999, 52, 52, 52, 51, 51, 50, 50, 52, 9999, 50, 50, 50};
        for (int i = 0; i < es.length; i++) {
            BudgetHouse y = new BudgetHouse();
            due(y, "paper(1, 0, 50) = 0", "paper(5, 0, 10051) = 1", "paper(5, 0, 20052) = 2", "paper(5, 0, 60000) = 3",
                "paper(5, 0, 69999) = 4");
            DUE.is("text bind " + es[i], Tapes.text(y, "bind " + es[i], 0), 0);
            DUE.is("line(0, 0) by bind " + es[i], y.line(0, 0), want[i]);
        }
    }

    private static void hours() {
        sentence("each in force from an HOUR on");
        BudgetHouse x = new BudgetHouse();
        due(x, "'pass 1' from 0 = 0", "'pass 1' from 1 = 1", "'pass 1' from 2 = 2", "'pass 1' from 166 = 3",
            "why(0) = 0", "run(59) = 59", "why(0) = 0", "run(1) = 60", "why(0) = 1", "run(59) = 119", "why(0) = 1",
            "run(1) = 120", "why(0) = 2", "clock(1) = 0", "run(240) = 360", "why(0) = 2", "clock(0) = 1",
            "run(240) = 600", "why(0) = 2", "'pass 1' from 6 = 4", "why(0) = 4", "'pass 1' from 7 = 5", "why(0) = 4",
            "'pass 1' from 5 = 6", "why(0) = 4");
        DUE.sentence("Promise 27", "THE TAPE is a TEXT from an HOUR (0 .. 166) on");
        due(new BudgetHouse(), "'may 1' from 0 = 0", "'may 1' from 166 = 1", "'may 1' from 167 = BAD",
            "'may 1' from -1 = BAD", "of(0, 1) = 0", "of(1, 1) = 166", "count(9) = 2");
    }

    private static void latestHour() {
        sentence("Of a KEY that TEXT counts in an HOUR which is in force, with the latest HOUR, of several the "
            + "greatest number");
        BudgetHouse x = new BudgetHouse();
        due(x, "run(120) = 120", "'pass 1' from 2 = 0", "'pass 0' from 0 = 1", "why(0) = 0", "'pass 0' from 1 = 2",
            "why(0) = 0", "'pass 0' from 2 = 3", "why(0) = 3", "'may 1' from 2 = 4", "why(0) = 3",
            "'pass 0' from 3 = 5", "why(0) = 3", "why(1) = 4", "why(2) = NONE", "run(60) = 180", "why(0) = 5",
            "why(1) = 4");
    }

    private static void withoutTexts() {
        sentence("Without a TEXT: pass: y > n; may: 1; order: 0; bind: 0");
        BudgetHouse x = new BudgetHouse();
        due(x, "'pass 1' from 1 = 0", "'may 0' from 1 = 1", "'order v' from 1 = 2", "'bind s' from 1 = 3",
            "member(0, 1) = 0", "paper(1, 0, 5) = 0", "paper(5, 0, 10009) = 1", "paper(2, 0, 1) = 2",
            "paper(2, 0, 2) = 3", "paper(2, 0, 3) = 4", "run(59) = 59", "would(0, 3) = 0", "row(0) = 2", "row(1) = 3",
            "line(0, 0) = 5", "put(4) = 0", "run(1) = 60", "would(0, 3) = 1", "row(0) = 3", "row(1) = 2",
            "line(0, 0) = 9", "put(3) = NO", "why(0) = 0", "why(3) = 3");
    }

    private static void row() {
        sentence("THE ROW: all CHANGES (HUNG ones, too) that are OPEN, by E of order, the greater first, of like "
            + "ones the lesser number");
        BudgetHouse x = new BudgetHouse();
        due(x, "row(0) = NONE", "member(0, 1) = 0", "paper(1, 0, 5) = 0", "row(0) = NONE", "paper(2, 0, 5) = 1",
            "row(0) = 1", "row(1) = NONE", "paper(4, 0, 5) = 2", "hung(0, 5, 1, 1) = 3", "paper(2, 0, 5) = 4",
            "row(-1) = BAD", "row(0) = 1", "row(1) = 3", "row(2) = 4", "row(3) = NONE", "put(4) = 0", "row(2) = NONE",
            "put(1) = 0", "told(3, 3) = 3", "row(0) = NONE", "paper(2, 0, 5) = 5", "put(0) = 0", "row(0) = NONE",
            "paper(2, 0, 5) = 6", "row(0) = 6");
    }

    private static void rowOfForty() {
        sentence("THE ROW of as many CHANGES as there may be");
        BudgetHouse x = new BudgetHouse();
        x.paper(1, 0, 5);
        for (int p = 1; p < 40; p++) {
            x.paper(2, 0, p);
        }
        for (int i = 0; i < 39; i++) {
            DUE.is("row(" + i + ")", x.row(i), i + 1);
        }
        due(x, "row(39) = NONE", "row(40) = NONE", "'order v' from 0 = 0");
        for (int i = 0; i < 39; i++) {
            DUE.is("row(" + i + ") by v", x.row(i), 39 - i);
        }
        due(x, "row(39) = NONE", "'order 0-(v-20)*(v-20)' from 0 = 1", "row(0) = 20", "row(1) = 19", "row(2) = 21",
            "row(37) = 1", "row(38) = 39", "row(39) = NONE", "first() = 20");
    }

    private static void bindingSum() {
        sentence("BINDING SUM of a LINE: .. the one with the greatest E of bind; of several the LINE's own, then "
            + "the least number");
        BudgetHouse x = new BudgetHouse();
        due(x, "paper(1, 0, 50) = 0", "paper(1, 0, 60) = 1", "line(0, 0) = 50", "line(0, 1) = 0",
            "'bind t > 0' from 0 = 0", "line(0, 0) = 50", "paper(5, 0, 1) = 2", "line(0, 0) = 50",
            "paper(5, 0, 20002) = 3", "paper(5, 0, 10003) = 4", "paper(5, 1, 10004) = 5", "line(0, 0) = 2",
            "line(1, 0) = 4", "'bind t = 0' from 0 = 1", "line(0, 0) = 50", "'bind t = 0 & s < 50' from 0 = 2",
            "line(0, 0) = 1", "'bind t = 0 | s = 2' from 0 = 3", "line(0, 0) = 50");
        sentence("UNLIKE: the TONGUES of a LINE (OPEN ones) whose SUM is not the LINE's");
        due(x, "line(0, 1) = 3", "line(1, 1) = 1", "paper(5, 0, 50) = 6", "paper(5, 0, 60050) = 7", "line(0, 1) = 3",
            "paper(5, 0, 49) = 8", "paper(5, 0, 51) = 9", "line(0, 1) = 5");
        BudgetHouse y = new BudgetHouse();
        y.paper(1, 0, 0);
        for (int p = 1; p < 40; p++) {
            y.paper(5, 0, 10000 * (p % 7) + p);
        }
        due(y, "line(0, 1) = 39", "'bind s' from 0 = 0", "line(0, 0) = 39", "'bind t' from 0 = 1", "line(0, 0) = 6",
            "'bind 0-s' from 0 = 2", "line(0, 0) = 0", "'bind s=39' from 0 = 3", "line(0, 0) = 39");
        DUE.is("paper behind 40", y.paper(5, 0, 0), FULL);
    }
}
