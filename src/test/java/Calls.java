import java.lang.reflect.InvocationTargetException;
import java.lang.reflect.Method;
import java.util.HashMap;
import java.util.List;
import java.util.Map;

/**
 * Asks a house by the words of a call, "pair(0, 1, 9)"; NONE and the other constants, MAX and MIN stand for numbers.
 * What is due stands behind: "pair(0, 1, 9) = BAD". "'may 1' from 0" brings the text to an empty tape and reads it;
 * "'may 1'" alone brings it there and answers how many bytes the tape has.
 */
final class Calls {
    private static final Map<String, Calls> KNOWN = new HashMap<>();
    private static final String IS = " = ";

    private final String name;
    private final Object[] args;
    private final Method method;

    private Calls(String name, Object[] args) {
        this.name = name;
        this.args = args;
        Method found = null;
        for (Method m : BudgetHouse.class.getMethods()) {
            if (m.getName().equals(name) && m.getParameterCount() == args.length) {
                found = m;
            }
        }
        if (found == null) {
            throw new IllegalArgumentException("no call " + name + " of " + args.length);
        }
        this.method = found;
    }

    /** The number that a word stands for. */
    static int number(String word) {
        switch (word) {
            case "BAD":
                return BudgetHouse.BAD;
            case "NO":
                return BudgetHouse.NO;
            case "FULL":
                return BudgetHouse.FULL;
            case "NONE":
                return BudgetHouse.NONE;
            case "NOTHING":
                return BudgetHouse.NOTHING;
            case "KIND":
                return BudgetHouse.KIND;
            case "INDEX":
                return BudgetHouse.INDEX;
            case "SIZE":
                return BudgetHouse.SIZE;
            case "MAX":
                return Integer.MAX_VALUE;
            case "MIN":
                return Integer.MIN_VALUE;
            default:
                return Integer.parseInt(word);
        }
    }

    static int ask(BudgetHouse x, String call) {
        if (call.startsWith("'")) {
            return askText(x, call);
        }
        Calls known = KNOWN.get(call);
        if (known == null) {
            known = parse(call);
            KNOWN.put(call, known);
        }
        return known.of(x);
    }

    private static int askText(BudgetHouse x, String call) {
        int end = call.lastIndexOf('\'');
        String text = call.substring(1, end);
        Tapes.feed(x, text);
        String hour = call.substring(end + 1).replace(" from ", "");
        return hour.isEmpty() ? x.count(15) : x.text(number(hour));
    }

    private static Calls parse(String call) {
        int open = call.indexOf('(');
        String inside = call.substring(open + 1, call.length() - 1);
        String[] words = inside.isEmpty() ? new String[0] : inside.split(", ");
        Object[] args = new Object[words.length];
        for (int i = 0; i < words.length; i++) {
            args[i] = number(words[i]);
        }
        return new Calls(call.substring(0, open), args);
    }

    private int of(BudgetHouse x) {
        try {
            return (Integer) method.invoke(x, args);
        } catch (InvocationTargetException e) {
            throw new IllegalStateException(name + " threw " + e.getCause());
        } catch (IllegalAccessException e) {
            throw new IllegalStateException(name + " is not public");
        }
    }

    /** The call of a row. */
    static String callOf(String row) {
        return row.substring(0, row.lastIndexOf(IS));
    }

    /** What is due by a row. */
    static int dueOf(String row) {
        return number(row.substring(row.lastIndexOf(IS) + IS.length()));
    }

    /** Asks rows of calls, one behind the other, each with what is due. */
    static void due(Due due, BudgetHouse x, String... rows) {
        for (String row : rows) {
            due.is(callOf(row), ask(x, callOf(row)), dueOf(row));
        }
    }

    /** How many calls of the house it takes to ask a call. */
    static int cost(String call) {
        return call.startsWith("'") ? 3 + (call.lastIndexOf('\'') + 10) / 12 : 1;
    }

    /** A new house on which calls have been made. */
    static BudgetHouse house(List<String> calls) {
        BudgetHouse x = new BudgetHouse();
        for (String call : calls) {
            ask(x, call);
        }
        return x;
    }
}
