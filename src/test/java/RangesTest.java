import java.util.List;

/**
 * The range of every argument: its least and its greatest number are taken, one below and one above are refused, and
 * a refused call changes nothing. (Arguments that are no range, and which refusal stands first: RefusedTest.)
 */
public final class RangesTest {
    private static final int BAD = BudgetHouse.BAD, INDEX = BudgetHouse.INDEX, SIZE = BudgetHouse.SIZE;
    private static final int MAX = Integer.MAX_VALUE, MIN = Integer.MIN_VALUE;
    private static final Due DUE = new Due("RangesTest");
    private static final List<String> MADE = Houses.calls(Houses.RICH);
    private static final Unchanged RICH = new Unchanged(MADE);
    private static int promise;

    public static void main(String[] args) {
        members();
        papers();
        votes();
        texts();
        money();
        books();
        carries();
        rows();
        DUE.end();
    }

    /** The call with another number as its argument of that place. */
    private static String with(String call, int arg, int v) {
        int open = call.indexOf('(');
        String[] words = call.substring(open + 1, call.length() - 1).split(", ");
        words[arg] = Integer.toString(v);
        return call.substring(0, open + 1) + String.join(", ", words) + ")";
    }

    private static void refused(String call, int arg, int v, int answer) {
        RICH.by(DUE, with(call, arg, v) + " = " + answer);
    }

    private static void below(String call, int arg, int least, int answer) {
        refused(call, arg, least - 1, answer);
        refused(call, arg, least - 2, answer);
        refused(call, arg, MIN, answer);
    }

    private static void above(String call, int arg, int greatest, int answer) {
        refused(call, arg, greatest + 1, answer);
        refused(call, arg, greatest + 2, answer);
        refused(call, arg, MAX, answer);
    }

    private static void taken(String call, int arg, int v) {
        String good = with(call, arg, v);
        int answer = Calls.ask(Calls.house(MADE), good);
        DUE.holds("promise " + promise + ": " + good + " answered " + answer, answer != BAD && answer != INDEX);
    }

    /** BAD below and above. */
    private static void range(String call, int arg, int least, int greatest) {
        range(call, arg, least, greatest, BAD);
    }

    private static void range(String call, int arg, int least, int greatest, int answer) {
        below(call, arg, least, answer);
        above(call, arg, greatest, answer);
        taken(call, arg, least);
        taken(call, arg, greatest);
    }

    private static void promise(int number) {
        promise = number;
        DUE.sentence("Promise " + number, "the range of each argument");
    }

    private static void members() {
        promise(2);
        range("member(4, 5)", 0, 0, 8);
        range("member(4, 5)", 1, 0, 127);
        promise(3);
        range("is(1, 0)", 0, 0, 5);
        range("is(1, 0)", 1, 0, 5);
        promise(4);
        range("train(1, 50)", 0, 0, 5);
        range("train(1, 50)", 1, 9, 9999);
        promise(5);
        range("go(1, 1)", 0, 0, 5);
        range("go(1, 1)", 1, 0, 1);
        promise(6);
        range("pair(1, 2, 50)", 0, 0, 5);
        range("pair(0, 2, 50)", 1, 1, 5, BAD);
        below("pair(1, 2, 50)", 1, 0, BAD);
        range("pair(0, 2, 50)", 2, 9, 9999);
        promise(7);
        range("breaks(0)", 0, 0, 1);
        promise(8);
        range("clock(0)", 0, 0, 1);
        promise(9);
        range("run(7)", 0, 1, 240);
    }

    private static void papers() {
        promise(10);
        range("paper(0, 0, 0)", 1, 0, 0);
        range("paper(0, 0, 0)", 2, 0, 0);
        range("paper(1, 12, 50)", 1, 0, 73);
        range("paper(1, 12, 50)", 2, 0, 9999);
        range("paper(2, 1, 5)", 2, -9999, 9999);
        range("paper(4, 1, 5)", 2, 0, 9999);
        range("paper(5, 1, 5)", 2, 0, 69999);
        range("paper(6, 12, 1)", 1, 1, 87);
        range("paper(7, 1, 0)", 2, 0, 0);
        below("paper(1, 0, 0)", 0, 0, BAD);
        above("paper(0, 0, 0)", 0, 7, BAD);
        promise(11);
        range("hung(1, 5, 2, 0)", 1, -9999, 9999);
        range("hung(1, 5, 2, 0)", 3, 0, 1);
        promise(12);
        range("told(1, 0)", 0, 0, 20);
        range("told(1, 0)", 1, 0, 9);
        promise(13);
        range("as(1, 0)", 0, 0, 20);
        range("as(1, 0)", 1, 0, 7);
        promise(14);
        range("stance(1, 1, 3)", 0, 0, 8);
        range("stance(1, 1, 3)", 1, 0, 20);
        range("stance(1, 1, 3)", 2, -9, 9);
        promise(15);
        range("print(1, 2, 3)", 0, 0, 20);
        range("print(1, 2, 3)", 1, 0, 6);
        range("print(1, 2, 3)", 2, 0, 99);
        promise(16);
        range("read(1, 1)", 0, 0, 5);
        range("read(1, 1)", 1, 0, 20);
    }

    private static void votes() {
        promise(17);
        range("would(1, 0)", 0, 0, 20);
        range("would(1, 0)", 1, 0, 3);
        promise(18);
        range("put(1)", 0, 0, 20);
        promise(19);
        range("rule(12)", 0, 0, 20);
        promise(20);
        range("mend(15)", 0, 0, 20);
        promise(21);
        range("falls(2)", 0, 0, 20);
        promise(22);
        range("never(2)", 0, 0, 20);
        promise(23);
        below("row(0)", 0, 0, BAD);
        taken("row(0)", 0, 0);
        taken("row(0)", 0, MAX);
        promise(24);
        range("line(1, 0)", 0, 0, 20);
        range("line(1, 0)", 1, 0, 3);
    }

    private static void texts() {
        promise(26);
        range("trim(2)", 0, 0, 3);
        promise(28);
        range("of(1, 0)", 0, 0, 4);
        range("of(1, 0)", 1, 0, 2);
        promise(29);
        range("why(1)", 0, 0, 3);
    }

    private static void money() {
        promise(30);
        range("income(5, 9999)", 0, 0, 9999);
        range("income(5, 10)", 0, 0, 10);
        range("income(5, 10)", 1, 5, 9999);
        promise(31);
        range("balance(1)", 0, 0, 13);
    }

    private static void books() {
        promise(33);
        range("book(0, 0, 3)", 0, 0, 7);
        range("book(0, 0, 3)", 1, -1, 1);
        above("book(0, 0, 3)", 2, 20, BAD);
        below("book(0, 0, 3)", 2, 0, SIZE);
        above("book(0, 1, 3)", 2, 20, BAD);
        below("book(0, 1, 3)", 2, 0, SIZE);
        taken("book(0, 0, 3)", 2, 0);
        taken("book(0, 0, 3)", 2, 20);
        promise(34);
        range("note(0, 1, 5)", 0, 0, 7);
        range("note(0, 1, 5)", 1, 0, 2, INDEX);
        range("note(1, 1, 5)", 2, -100000, 100000);
        taken("note(0, 1, 5)", 2, MIN);
        taken("note(0, 1, 5)", 2, MAX);
        promise(35);
        range("looks(0, 1)", 0, 0, 7);
        range("looks(0, 1)", 1, 0, 2, INDEX);
        promise(36);
        range("copy(0, 0, 0, 0, 1)", 0, 0, 7);
        range("copy(0, 0, 0, 0, 1)", 2, 0, 7);
        range("copy(0, 0, 0, 0, 1)", 1, 0, 2, INDEX);
        range("copy(0, 0, 0, 0, 1)", 3, 0, 2, INDEX);
        range("copy(0, 0, 0, 0, 1)", 4, 0, 3, INDEX);
        range("copy(0, 2, 0, 0, 1)", 4, 0, 1, INDEX);
        range("copy(0, 0, 0, 2, 1)", 4, 0, 1, INDEX);
        range("copy(0, 0, 0, 0, 0)", 1, 0, 3, INDEX);
        range("copy(0, 0, 0, 0, 0)", 3, 0, 3, INDEX);
        promise(37);
        below("span(0, 0)", 0, 0, BAD);
        taken("span(0, 0)", 0, 0);
        taken("span(0, 0)", 0, MAX);
        range("span(0, 0)", 1, 0, 2);
    }

    private static void carries() {
        promise(38);
        range("wish(1, 5)", 0, 0, 8);
        range("wish(1, 5)", 1, 0, 255);
        promise(39);
        range("carry(1, 0)", 0, 1, 20);
        range("carry(1, 0)", 1, 0, 2);
        promise(41);
        range("speaks(0, 3, 4)", 0, 0, 1);
        range("speaks(0, 3, 4)", 1, 0, 6);
        range("speaks(0, 4, 3)", 2, 0, 6);
        promise(42);
        range("speech(1, 3, 4)", 0, 0, 7);
        range("speech(1, 3, 4)", 1, 0, 6);
        range("speech(1, 4, 3)", 2, 0, 6);
        promise(43);
        range("heard(2)", 0, 1, 8);
        promise(44);
        range("shift(2, 0)", 0, 1, 8);
        range("shift(8, 0)", 1, 0, 7);
        range("shift(3, 0)", 1, 0, 2);
        range("shift(1, 0)", 1, 0, 0);
        promise(45);
        range("offer(2, 2, 2, 2)", 0, 1, 9);
        range("offer(2, 2, 2, 2)", 1, 1, 99);
        range("offer(2, 2, 2, 2)", 2, 0, 999);
        range("offer(2, 2, 2, 2)", 3, 0, 255);
        promise(46);
        range("night(2, 50, 0)", 0, 1, 99);
        range("night(2, 50, 0)", 1, 1, 999);
        range("night(2, 50, 0)", 2, 0, 2);
    }

    private static void rows() {
        promise(51);
        range("count(3)", 0, 0, 17);
        // The numbers that wait are used up by a refused check().
        promise(48);
        Unchanged noneWait = new Unchanged(Houses.calls(Houses.RICH_NONE_WAIT));
        for (int v : new int[] {-2, -1, 2, 3, MIN, MAX}) {
            noneWait.by(DUE, MADE, with("check(0, 5, 50)", 0, v) + " = BAD");
        }
        for (int v : new int[] {-1, 0, 100, 101, MIN, MAX}) {
            noneWait.by(DUE, MADE, with("check(0, 5, 50)", 1, v) + " = BAD");
        }
        for (int v : new int[] {-1, 0, 1000, 1001, MIN, MAX}) {
            noneWait.by(DUE, MADE, with("check(0, 5, 50)", 2, v) + " = BAD");
        }
        for (int v : new int[] {-1, 0, 31, 32, MIN, MAX}) {
            noneWait.by(DUE, MADE, with("check(1, 5, 50)", 1, v) + " = BAD");
        }
        for (String good : new String[] {"check(0, 1, 50)", "check(0, 99, 50)", "check(0, 5, 1)", "check(0, 5, 999)",
            "check(1, 1, 50)", "check(1, 30, 50)", "check(1, 2, MIN)", "check(1, 2, MAX)", "check(1, 2, 0)"}) {
            int answer = Calls.ask(Calls.house(MADE), good);
            DUE.holds("promise 48: " + good + " answered " + answer, answer != BAD);
        }
        promise(47);
        taken("tell(0)", 0, MIN);
        taken("tell(0)", 0, MAX);
        promise(25);
        for (int arg = 0; arg < 3; arg++) {
            taken("feed(0, 0, 0)", arg, MIN);
            taken("feed(0, 0, 0)", arg, MAX);
        }
    }
}
