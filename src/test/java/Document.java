import java.io.IOException;
import java.nio.file.Files;
import java.nio.file.Path;

/**
 * Goes through the document by its own words: what it says, and rows of calls that would be answered otherwise if it
 * did not hold. At the end, all words of a part must have been said, in their order.
 */
final class Document {
    private static final Path FILE = Path.of("../shared/DOC.md");

    private final Due due;
    private final StringBuilder said = new StringBuilder();
    private BudgetHouse x = new BudgetHouse();
    private int calls;

    Document(Due due) {
        this.due = due;
    }

    /** A new house, and rows of calls (strings, or arrays of them) that make it what the next ones need. */
    void begin(Object... rows) {
        x = new BudgetHouse();
        calls = 0;
        ask(rows);
    }

    /** Words of the document, and rows of calls on the house as it stands. */
    void says(String words, Object... rows) {
        said.append(words).append(' ');
        due.sentence("DOC.md", words);
        ask(rows);
    }

    /** More rows for the words that were said last. */
    void ask(Object... rows) {
        for (Object row : rows) {
            String[] some = row instanceof String[] ? (String[]) row : new String[] {(String) row};
            Calls.due(due, x, some);
            for (String one : some) {
                calls += Calls.cost(Calls.callOf(one));
            }
        }
        due.holds("one house is asked " + calls + " times", calls <= 512);
    }

    /** A row for each number of a range, in place of # (and one more in place of ~). */
    static String[] many(int from, int till, String row) {
        String[] all = new String[till - from + 1];
        for (int i = from; i <= till; i++) {
            all[i - from] = row.replace("#", "" + i).replace("~", "" + (i + 1));
        }
        return all;
    }

    /** Rows of other numbers: those of a row of texts, each in place of #. */
    static String[] each(String row, String... words) {
        String[] all = new String[words.length];
        for (int i = 0; i < words.length; i++) {
            all[i] = row.replace("#", words[i]);
        }
        return all;
    }

    /**
     * Tells if not all words between two headings were said. The document is not of this checkout, and may say
     * something in other words some day: that is to be looked at, but is no wrong answer.
     */
    void wholePart(String from, String till) throws IOException {
        if (!Files.exists(FILE)) {
            return;
        }
        String file = Files.readString(FILE);
        int begins = file.indexOf(from);
        int ends = file.indexOf(till);
        String want = begins >= 0 && ends > begins ? words(file.substring(begins, ends)) : "";
        String got = words(said.toString());
        int same = 0;
        while (same < Math.min(want.length(), got.length()) && want.charAt(same) == got.charAt(same)) {
            same++;
        }
        if (!want.equals(got)) {
            System.out.println("DOC.md says something else here: .. "
                + want.substring(Math.max(0, same - 30), Math.min(want.length(), same + 60)) + " ..");
        }
    }

    /** The words without headings, signatures and breaks of lines. */
    private static String words(String part) {
        return part.replaceAll("(?m)^## .*$", "").replaceAll("(?m)^```.*$", "").replaceAll("======== \\d", "")
            .replaceAll("(?m)^Ahead of the calls .*$", "").replaceAll("(?m)^`[^`]*`: ", "").replaceAll("\\s+", " ")
            .trim();
    }
}
