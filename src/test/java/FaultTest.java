import java.util.regex.Matcher;
import java.util.regex.Pattern;

/**
 * "FAULT: the first byte of the first word or sign with which no TEXT goes on": for every row of up to six words and
 * signs, by trying how it can go on. What E is, is told here by taking out ( E ) from inside, not by reading.
 */
public final class FaultTest {
    private static final Due DUE = new Due("FaultTest");
    private static final String WORDS = "y1!()&|<=>+-*/";
    private static final int LONGEST = 6, CALLS_OF_ONE = 500, CALLS_OF_A_TEXT = 6;
    private static final String PART = "!*[y1]", TERM = PART + "([*/]" + PART + ")*", SUM = TERM + "([+-]" + TERM + ")*",
        TEST = SUM + "([<=>]" + SUM + ")?", AND = TEST + "(&" + TEST + ")*", OR = AND + "(\\|" + AND + ")*";
    private static final Pattern E = Pattern.compile(OR), INSIDE = Pattern.compile("\\((" + OR + ")\\)");

    private static BudgetHouse x;
    private static int calls = CALLS_OF_ONE;

    public static void main(String[] args) {
        DUE.sentence("Terms 3", "the first word or sign with which no TEXT goes on; the end, if it comes too soon");
        goOn("", 0);
        DUE.end();
    }

    /** Asks a row that goes on this far (fault -1: without a FAULT yet), and all rows that begin with it. */
    private static void goOn(String row, int length) {
        asks(row, isE(row) ? -1 : row.length());
        for (int i = 0; i < WORDS.length() && length < LONGEST; i++) {
            String longer = row + WORDS.charAt(i);
            if (canGoOn(longer)) {
                goOn(longer, length + 1);
            } else {
                asks(longer, row.length());
                asks(longer + "y", row.length());
                asks(longer + ")", row.length());
            }
        }
    }

    private static boolean isE(String row) {
        String left = row;
        Matcher inside = INSIDE.matcher(left);
        while (inside.find()) {
            left = left.substring(0, inside.start()) + "y" + left.substring(inside.end());
            inside = INSIDE.matcher(left);
        }
        return E.matcher(left).matches();
    }

    /** Whether a row, a y where one is missing, and as many ) as are missing are E. */
    private static boolean canGoOn(String row) {
        String end = "";
        for (int i = 0; i <= LONGEST; i++) {
            if (isE(row + end) || isE(row + "y" + end)) {
                return true;
            }
            end += ")";
        }
        return false;
    }

    /** Words and signs with a blank ahead of each: so the place of the i-th is 5 + 2 * i, the end right behind. */
    private static void asks(String row, int fault) {
        StringBuilder text = new StringBuilder("pass");
        for (int i = 0; i < row.length(); i++) {
            text.append(' ').append(row.charAt(i));
        }
        calls += CALLS_OF_A_TEXT;
        if (calls > CALLS_OF_ONE) {
            x = new BudgetHouse();
            x.keep();
            calls = CALLS_OF_A_TEXT + 1;
        }
        int place = fault == row.length() ? text.length() : 5 + 2 * fault;
        DUE.is("'" + text + "'", Tapes.text(x, text.toString(), 0), fault < 0 ? 0 : -100 - place);
        x.back();
    }
}
