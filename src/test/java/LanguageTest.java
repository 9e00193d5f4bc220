import com.sun.management.ThreadMXBean;
import java.io.IOException;
import java.lang.management.ManagementFactory;
import java.lang.reflect.Constructor;
import java.lang.reflect.Field;
import java.lang.reflect.Method;
import java.lang.reflect.Modifier;
import java.nio.file.Files;
import java.nio.file.Path;
import java.util.ArrayList;
import java.util.Arrays;
import java.util.HashSet;
import java.util.List;
import java.util.Set;
import java.util.TreeSet;

/** The face of the document, and those rules of LANGUAGE.md that can be seen from the class or its lines. */
public final class LanguageTest {
    private static final Due DUE = new Due("LanguageTest");
    private static final String FACE = "member(2) is(2) train(2) go(2) pair(3) breaks(1) clock(1) run(1) paper(3) hung(4) "
        + "told(2) as(2) stance(3) print(3) read(2) would(2) put(1) rule(1) mend(1) falls(1) never(1) row(1) line(2) "
        + "feed(3) trim(1) text(1) of(2) why(1) income(2) balance(1) first(0) book(3) note(3) looks(2) copy(5) span(2) "
        + "wish(2) carry(2) interpreter(0) speaks(3) speech(3) heard(1) shift(2) offer(4) night(3) tell(1) check(3) "
        + "keep(0) back(0) count(1)";
    private static final String[] CONSTANTS = {"BAD", "NO", "FULL", "NONE", "NOTHING", "KIND", "INDEX", "SIZE"};
    private static final int[] VALUES = {-1000000001, -1000000002, -1000000003, -1000000005, -1000000011, -1000000012,
        -1000000013, -1000000014};

    public static void main(String[] args) throws IOException, IllegalAccessException {
        face();
        constants();
        classesInside();
        lines(Files.readAllLines(Path.of("src/main/java/BudgetHouse.java")));
        room();
        DUE.end();
    }

    private static void face() {
        Class<?> c = BudgetHouse.class;
        DUE.holds("the class is public and final",
            Modifier.isPublic(c.getModifiers()) && Modifier.isFinal(c.getModifiers()));
        Set<String> methods = new TreeSet<>();
        Set<String> names = new HashSet<>();
        for (Method m : c.getDeclaredMethods()) {
            if (Modifier.isPublic(m.getModifiers())) {
                methods.add(m.getName() + "(" + m.getParameterCount() + ")");
                names.add(m.getName());
                DUE.holds(m + " answers an int",
                    m.getReturnType() == int.class && !Modifier.isStatic(m.getModifiers()));
                for (Class<?> p : m.getParameterTypes()) {
                    DUE.holds(m + " takes ints", p == int.class);
                }
            }
        }
        DUE.holds("the methods are those of the face", methods.equals(new TreeSet<>(Arrays.asList(FACE.split(" ")))));
        for (Method m : c.getDeclaredMethods()) {
            if (!Modifier.isPublic(m.getModifiers())) {
                DUE.holds(m + " is private", Modifier.isPrivate(m.getModifiers()));
                DUE.holds(m + " bears a name of the face", !names.contains(m.getName()));
            }
        }
        for (Class<?> inside : c.getDeclaredClasses()) {
            for (Method m : inside.getDeclaredMethods()) {
                DUE.holds(m + " bears a name of the face", !names.contains(m.getName()));
                DUE.holds(m + " has more than 7 parameters", m.getParameterCount() <= 7);
            }
        }
        Constructor<?>[] made = c.getDeclaredConstructors();
        DUE.holds("there is one constructor", made.length == 1 && Modifier.isPublic(made[0].getModifiers())
            && made[0].getParameterCount() == 0);
    }

    private static void constants() throws IllegalAccessException {
        int found = 0;
        for (Field f : BudgetHouse.class.getDeclaredFields()) {
            int at = Arrays.asList(CONSTANTS).indexOf(f.getName());
            if (Modifier.isPublic(f.getModifiers())) {
                found++;
                DUE.holds(f + " is of the face",
                    at >= 0 && f.getInt(null) == VALUES[at] && Modifier.isFinal(f.getModifiers()));
            } else {
                DUE.holds(f + " is private", Modifier.isPrivate(f.getModifiers()));
            }
            DUE.holds(f + " is final if static",
                !Modifier.isStatic(f.getModifiers()) || Modifier.isFinal(f.getModifiers()));
        }
        DUE.is("constants of the face", found, 8);
    }

    private static void classesInside() {
        Class<?>[] inside = BudgetHouse.class.getDeclaredClasses();
        DUE.holds("there are at most 12 classes", inside.length < 12);
        List<Class<?>> all = new ArrayList<>(Arrays.asList(inside));
        all.add(BudgetHouse.class);
        for (Class<?> c : all) {
            int fields = 0;
            for (Field f : c.getDeclaredFields()) {
                fields += Modifier.isStatic(f.getModifiers()) ? 0 : 1;
            }
            DUE.holds(c + " has " + fields + " fields", fields <= 20);
            DUE.holds(c + " is static", c == BudgetHouse.class || Modifier.isStatic(c.getModifiers())
                && !Modifier.isPublic(c.getModifiers()) && !Modifier.isProtected(c.getModifiers()));
            DUE.holds(c + " has classes inside", c == BudgetHouse.class || c.getDeclaredClasses().length == 0);
        }
    }

    /** "All calls of one run live in one room": what the dearest calls make, on a house that is full. */
    private static void room() {
        ThreadMXBean threads = (ThreadMXBean) ManagementFactory.getThreadMXBean();
        String[] dear = {"put(39)", "would(39, 3)", "row(38)", "first()", "falls(39)", "carry(20, 0)", "shift(8, 7)",
            "night(72, 999, 0)", "check(0, 72, 999)", "check(1, 30, 0)", "keep()", "back()", "text(0)", "run(1)",
            "span(19, 1)"};
        for (String call : dear) {
            BudgetHouse x = Calls.house(Houses.calls(Houses.FULL));
            Calls.ask(x, call);
            long before = threads.getThreadAllocatedBytes(Thread.currentThread().getId());
            for (int i = 0; i < 260; i++) {
                Calls.ask(x, call);
            }
            long made = threads.getThreadAllocatedBytes(Thread.currentThread().getId()) - before;
            DUE.holds("260 calls " + call + " make " + made + " bytes", made < 4000000);
        }
    }

    private static void lines(List<String> lines) {
        int begun = 0;
        for (int i = 0; i < lines.size(); i++) {
            String line = lines.get(i);
            String code = line.replaceAll("\"[^\"]*\"", "\"\"").replaceAll("'.'", "' '").replaceAll("//.*", "");
            if (code.trim().startsWith("*") || code.trim().startsWith("/*")) {
                code = "";
            }
            String where = "line " + (i + 1) + ": " + line.trim();
            DUE.holds(where, code.chars().allMatch(c -> c >= 32 && c < 127));
            DUE.holds(where, !code.matches(".*\\b(throw|throws|try|catch|synchronized|assert|package|native|transient|"
                + "volatile|Object|Exception|Thread)\\b.*"));
            DUE.holds(where, !code.matches(".*\\bimport\\b.*")
                || code.matches("import java\\.util\\.(ArrayList|List|Arrays|Iterator);"));
            DUE.holds(where, !code.matches(".*\\bSystem\\b.*") || code.contains("System.arraycopy("));
            DUE.holds(where, !code.contains("-> {") && !code.contains("::") && !code.contains("while (true)")
                && !code.contains("for (;;)") && !code.matches(".*\\w+Exact\\(.*"));
            if (code.matches(" +[\\w\\[\\]<>]+( [\\w\\[\\]<>]+)* \\w+\\([^;]*\\{") && !code.matches(" +(else |if|for|while|switch).*")) {
                begun = i;
            }
            DUE.holds(where + " ends a method that is too long", !code.matches("( {4}| {8})\\}") || i - begun < 60);
        }
    }
}
