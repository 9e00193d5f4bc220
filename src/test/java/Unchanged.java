import java.util.ArrayList;
import java.util.Arrays;
import java.util.List;

/**
 * Whether a call leaves a house as it was: whatever a house can be asked behind the call is answered as by a house
 * made without it. A house takes 512 calls, so what is asked is cut into looks, each at a new house.
 */
final class Unchanged {
    private static final int CALLS = 512;
    /** Room for the calls of the one who asks: the one that changes nothing, and a house made in another way. */
    private static final int SPARE = 80;

    private final List<String> made;
    private final List<List<String>> looks = new ArrayList<>();
    private final List<int[]> answers = new ArrayList<>();

    /** As a house is that was made by these calls. */
    Unchanged(List<String> made) {
        this.made = made;
        BudgetHouse x = Calls.house(made);
        List<String> facts = new ArrayList<>();
        facts(facts, x.count(0) + 1, x.count(3) + 1);
        List<String> settings = new ArrayList<>();
        settings(settings, x.count(0), x.count(3));
        cut(new String[0], facts);
        cut(new String[0], settings);
        cut(new String[] {"back()"}, facts);
        cut(new String[] {"back()"}, settings);
        for (int minutes : new int[] {1, 2, 60, 100}) {
            List<String> later = new ArrayList<>();
            later(later, x.count(0), x.count(3));
            cut(new String[] {"run(" + minutes + ")"}, later);
        }
        for (List<String> look : looks) {
            answers.add(look(Calls.house(made), look));
        }
    }

    private static int cost(List<String> calls) {
        int all = 0;
        for (String call : calls) {
            all += Calls.cost(call);
        }
        return all;
    }

    /** Cuts what is asked into looks that leave room for a call of the one who asks; each begins alike. */
    private void cut(String[] begin, List<String> asked) {
        int room = CALLS - SPARE - cost(made) - begin.length;
        for (int from = 0; from < asked.size(); from += room) {
            List<String> look = new ArrayList<>(Arrays.asList(begin));
            look.addAll(asked.subList(from, Math.min(asked.size(), from + room)));
            looks.add(look);
        }
    }

    private static int[] look(BudgetHouse x, List<String> look) {
        int[] all = new int[look.size()];
        for (int i = 0; i < all.length; i++) {
            all[i] = Calls.ask(x, look.get(i));
        }
        return all;
    }

    /** What is due of a call, and that it changes nothing. */
    void by(Due due, String row) {
        by(due, made, row);
    }

    /** What is due of a call on a house that was made in another way, and that the house becomes this one by it. */
    void by(Due due, List<String> madeSo, String row) {
        String call = Calls.callOf(row);
        for (int i = 0; i < looks.size(); i++) {
            BudgetHouse x = Calls.house(madeSo);
            due.is(call, Calls.ask(x, call), Calls.dueOf(row));
            List<String> look = looks.get(i);
            for (int k = 0; k < look.size(); k++) {
                due.is(look.get(k) + " behind " + call, Calls.ask(x, look.get(k)), answers.get(i)[k]);
            }
        }
    }

    private static void each(List<String> all, String name, int from, int n, int whats) {
        for (int i = from; i < n; i++) {
            for (int what = 0; what < whats; what++) {
                all.add(name + "(" + i + ", " + what + ")");
            }
        }
    }

    private static void each(List<String> all, String name, int from, int n) {
        for (int i = from; i < n; i++) {
            all.add(name + "(" + i + ")");
        }
    }

    private static void facts(List<String> all, int members, int papers) {
        each(all, "count", 0, 18);
        each(all, "is", 0, members, 6);
        each(all, "told", 0, papers, 10);
        each(all, "would", 0, papers, 4);
        each(all, "line", 0, papers, 4);
        each(all, "falls", 0, papers);
        each(all, "never", 0, papers);
        each(all, "row", 0, papers);
        each(all, "of", 0, 12, 3);
        each(all, "why", 0, 4);
        each(all, "balance", 0, 14);
        all.add("first()");
        each(all, "looks", 0, 8, 21);
        each(all, "span", 0, 20, 3);
        each(all, "carry", 1, 21, 3);
        each(all, "heard", 1, 9);
        each(all, "shift", 8, 9, 8);
        for (int n = 1; n < 13; n++) {
            all.add("night(" + n + ", 10, 0)");
            all.add("night(" + n + ", 99, 0)");
            all.add("night(" + n + ", 99, 1)");
        }
    }

    /** Calls that tell what was set before; behind them, that the house goes on alike. */
    private static void settings(List<String> all, int members, int papers) {
        all.add("trim(3)");
        all.add("'may 1'");
        all.add("text(0)");
        all.add("check(1, 2, 0)");
        all.add("clock(0)");
        each(all, "wish", 0, 9, 1);
        for (int m = 0; m < members; m++) {
            all.add("train(" + m + ", NONE)");
            all.add("go(" + m + ", 1)");
        }
        each(all, "breaks", 0, 10);
        for (int i = 0; i < 6; i++) {
            all.add("speaks(" + i + ", 4, 5)");
        }
        for (int hour = 0; hour < 8; hour++) {
            all.add("speech(" + hour + ", 4, 5)");
            all.add("heard(8)");
        }
        for (int p = 0; p < papers; p++) {
            for (int party = 0; party < 9; party++) {
                all.add("stance(" + party + ", " + p + ", 9)");
            }
        }
        for (int p = 0; p < papers; p++) {
            all.add("put(" + p + ")");
            all.add("rule(" + p + ")");
            all.add("mend(" + p + ")");
        }
        all.add("keep()");
        all.add("run(30)");
        all.add("back()");
        all.add("member(8, 1)");
        all.add("pair(1, 2, 9999)");
        all.add("paper(1, 0, 0)");
        all.add("print(0, 5, 9)");
        all.add("income(0, 1)");
        all.add("interpreter()");
        all.add("offer(9, 9, 9, 0)");
        all.add("tell(7)");
    }

    private static void later(List<String> all, int members, int papers) {
        each(all, "count", 0, 18);
        each(all, "why", 0, 4);
        for (int p = 0; p < papers; p++) {
            all.add("told(" + p + ", 6)");
        }
        for (int m = 0; m < members; m++) {
            all.add("is(" + m + ", 3)");
            all.add("is(" + m + ", 4)");
        }
    }
}
