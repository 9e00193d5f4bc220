import java.lang.reflect.InvocationTargetException;
import java.lang.reflect.Method;
import java.util.ArrayList;
import java.util.Arrays;
import java.util.List;
import java.util.Random;

/** All promises: runs of calls on the program and on the model, which must answer alike. The runs are always the same. */
public final class ModelTest {
    private static final int RUNS = 700;
    private static final int CALLS = 512;
    private static final int[] EDGES = {-1, 0, 1, 2, 8, 9, 10, 20, 100, 127, 128, 255, 256, 9999, 10000, -9999, -10000,
        Integer.MAX_VALUE, Integer.MIN_VALUE, BudgetHouse.NONE, BudgetHouse.BAD};
    private static final Due DUE = new Due("ModelTest");

    private final Random random;
    private final BudgetHouse house = new BudgetHouse();
    private final Model model = new Model();
    private final Method[] ofHouse;
    private final Method[] ofModel;
    private final List<String> calls = new ArrayList<>();
    /** How this run behaves: how often arguments are wild, how much time goes by, what is looked at most. */
    private final int wild;
    private final boolean hasty;
    private final boolean crowded;
    private final boolean late;
    private final int[] weights;

    private ModelTest(long seed, Method[] ofHouse, Method[] ofModel) {
        this.random = new Random(seed);
        this.ofHouse = ofHouse;
        this.ofModel = ofModel;
        this.wild = new int[] {0, 2, 5, 30}[random.nextInt(4)];
        this.hasty = random.nextInt(4) == 0;
        this.crowded = random.nextInt(6) == 0;
        this.late = random.nextInt(10) == 0;
        this.weights = new int[ofHouse.length];
        for (int i = 0; i < weights.length; i++) {
            weights[i] = 1 + random.nextInt(random.nextInt(4) == 0 ? 20 : 4);
        }
    }

    public static void main(String[] args) throws IllegalAccessException {
        List<Method> face = new ArrayList<>();
        for (Method m : BudgetHouse.class.getDeclaredMethods()) {
            if (java.lang.reflect.Modifier.isPublic(m.getModifiers())) {
                face.add(m);
            }
        }
        face.sort((a, b) -> a.getName().compareTo(b.getName()));
        Method[] ofHouse = face.toArray(new Method[0]);
        Method[] ofModel = new Method[ofHouse.length];
        for (int i = 0; i < ofHouse.length; i++) {
            ofModel[i] = find(ofHouse[i].getName());
        }
        DUE.holds("the face has 50 methods, not " + ofHouse.length, ofHouse.length == 50);
        for (int run = 0; run < RUNS && !DUE.isWrong(); run++) {
            new ModelTest(run, ofHouse, ofModel).go();
        }
        DUE.end();
    }

    private static Method find(String name) {
        for (Method m : Model.class.getDeclaredMethods()) {
            if (m.getName().equals(name) && !java.lang.reflect.Modifier.isPrivate(m.getModifiers())) {
                return m;
            }
        }
        throw new IllegalStateException("the model has no " + name);
    }

    private void go() throws IllegalAccessException {
        begin();
        if (crowded) {
            crowd();
        }
        if (late) {
            goLate();
        }
        while (calls.size() < CALLS && !DUE.isWrong()) {
            int turn = random.nextInt(100);
            if (turn < 4) {
                feedText();
            } else if (turn < 6) {
                tellRows();
            } else {
                Method m = ofHouse[weighted()];
                ask(m.getName(), argumentsOf(m));
            }
        }
    }

    private int weighted() {
        int all = 0;
        for (int w : weights) {
            all += w;
        }
        int at = random.nextInt(all);
        int i = 0;
        while (at >= weights[i]) {
            at -= weights[i];
            i++;
        }
        return i;
    }

    /** Some papers and members, so that there is something to go on with. */
    private void begin() throws IllegalAccessException {
        int members = random.nextInt(12);
        for (int i = 0; i < members; i++) {
            ask("member", random.nextInt(4), random.nextInt(128));
        }
        int lines = 1 + random.nextInt(6);
        for (int i = 0; i < lines; i++) {
            ask("paper", 1, random.nextInt(8) * 10 + random.nextInt(4), random.nextInt(200));
        }
        int changes = random.nextInt(6);
        for (int i = 0; i < changes; i++) {
            ask("paper", 2, random.nextInt(lines), random.nextInt(200) - 100);
        }
        for (int i = 0; i < changes; i++) {
            ask("hung", random.nextInt(lines), random.nextInt(200) - 100, lines + random.nextInt(changes + i),
                random.nextInt(2));
        }
        for (int p = 0; p < model.count(3) && random.nextInt(9) != 0; p++) {
            ask("print", p, random.nextInt(3), 0);
            ask("stance", random.nextInt(4), p, random.nextInt(19) - 9);
        }
        for (int i = random.nextInt(3); i > 0; i--) {
            ask("income", 10 * random.nextInt(10), 100 * (1 + random.nextInt(5)));
        }
    }

    /** Nearly as much of everything as there may be. */
    private void crowd() throws IllegalAccessException {
        for (int i = model.count(0); i < 18 + random.nextInt(4); i++) {
            ask("member", random.nextInt(9), random.nextInt(128));
        }
        for (int i = model.count(3); i < 36 + random.nextInt(6); i++) {
            if (random.nextInt(4) == 0) {
                ask("hung", usual("hung"));
            } else {
                ask("paper", aNewPaper());
            }
        }
        for (int i = 0; i < 27 + random.nextInt(6); i++) {
            ask("print", aPaper(), random.nextInt(7), 1 + random.nextInt(99));
        }
        for (int i = 0; i < 6 + random.nextInt(4); i++) {
            ask("income", usual("income"));
            ask("offer", usual("offer"));
            ask("interpreter");
            ask("pair", usual("pair"));
        }
        for (int i = 0; i < 9; i++) {
            feedText();
        }
    }

    /** The last MINUTES. */
    private void goLate() throws IllegalAccessException {
        for (int i = 0; i < 41; i++) {
            ask("run", 240);
        }
        ask("run", 100 + random.nextInt(59));
        ask("keep");
    }

    private void ask(String name, int... args) throws IllegalAccessException {
        if (calls.size() >= CALLS) {
            return;
        }
        int i = 0;
        while (!ofHouse[i].getName().equals(name)) {
            i++;
        }
        Object[] boxed = new Object[args.length];
        for (int k = 0; k < args.length; k++) {
            boxed[k] = args[k];
        }
        String call = name + Arrays.toString(args);
        calls.add(call);
        int want = answer(ofModel[i], model, boxed);
        int got = answer(ofHouse[i], house, boxed);
        DUE.is(call, got, want);
        if (got != want) {
            System.out.println("the run's calls were " + calls);
        }
    }

    private static int answer(Method m, Object of, Object[] args) throws IllegalAccessException {
        try {
            return (Integer) m.invoke(of, args);
        } catch (InvocationTargetException e) {
            DUE.tell(m + " threw " + e.getCause());
            return 0;
        }
    }

    private void feedText() throws IllegalAccessException {
        ask("trim", 0);
        String text = new Writer(random).text();
        for (int at = 0; at < text.length(); at += 12) {
            ask("feed", Tapes.four(text, at), Tapes.four(text, at + 4), Tapes.four(text, at + 8));
        }
        ask("trim", text.length());
        ask("text", random.nextInt(20) == 0 ? random.nextInt(170) - 1 : random.nextInt(4));
    }

    /** Mostly the rows that are due, or nearly so. */
    private void tellRows() throws IllegalAccessException {
        if (model.count(14) > 0) {
            ask("check", random.nextInt(2), 1 + random.nextInt(9), 1 + random.nextInt(99));
        }
        int what = random.nextInt(2);
        int n = 1 + random.nextInt(what == 0 ? 20 : 6);
        int m = 1 + random.nextInt(300);
        List<Integer> due = model.due(what, n, m);
        int size = due == null ? random.nextInt(4) : due.size() + (random.nextInt(4) == 0 ? random.nextInt(3) - 1 : 0);
        int unlike = random.nextInt(2) == 0 ? random.nextInt(size + 1) : -1;
        for (int i = 0; i < size; i++) {
            int v = due == null || i >= due.size() ? random.nextInt(5) : due.get(i);
            ask("tell", i == unlike ? v + 1 : v);
        }
        ask("check", what, n, m);
    }

    private int[] argumentsOf(Method m) {
        int[] args = usual(m.getName());
        for (int i = 0; i < args.length; i++) {
            if (random.nextInt(100) < wild) {
                args[i] = EDGES[random.nextInt(EDGES.length)];
            }
        }
        return args;
    }

    private int below(int n) {
        return random.nextInt(n);
    }

    private int aPaper() {
        int n = model.count(3);
        return below(40) == 0 ? below(42) - 1 : below(n + 1);
    }

    private int paperOf(int kind) {
        List<Integer> all = new ArrayList<>();
        for (int p = 0; p < model.count(3); p++) {
            int k = model.told(p, 0);
            if (k == kind || kind == 2 && k == 3) {
                all.add(p);
            }
        }
        return all.isEmpty() || below(30) == 0 ? aPaper() : all.get(below(all.size()));
    }

    private int aMember() {
        return below(model.count(0) + 1);
    }

    private int later() {
        return model.count(16) + below(below(3) == 0 ? 200 : 12);
    }

    private int office() {
        return below(4) == 0 ? below(8) : below(3);
    }

    private int[] usual(String name) {
        switch (name) {
            case "member":
                return new int[] {below(5), below(128)};
            case "is":
                return new int[] {aMember(), below(6)};
            case "train":
                return new int[] {aMember(), below(5) == 0 ? BudgetHouse.NONE : later()};
            case "go":
                return new int[] {aMember(), below(2)};
            case "pair":
                return new int[] {aMember(), aMember(), later()};
            case "breaks":
                return new int[] {below(11)};
            case "clock":
                return new int[] {below(8) == 0 ? 1 : 0};
            case "run":
                return new int[] {hasty ? 200 + below(41) : 1 + below(below(4) == 0 ? 100 : 9)};
            case "paper":
                return aNewPaper();
            case "hung":
                return new int[] {paperOf(1), below(400) - 200, paperOf(2), below(2)};
            case "told":
                return new int[] {aPaper(), below(10)};
            case "as":
                return new int[] {aPaper(), below(8)};
            case "stance":
                return new int[] {below(5), aPaper(), below(19) - 9};
            case "print":
                return new int[] {aPaper(), below(7), below(2) == 0 ? 0 : below(hasty ? 100 : 30)};
            case "read":
                return new int[] {aMember(), aPaper()};
            case "would":
                return new int[] {paperOf(1 + below(4)), below(4)};
            case "put":
                return new int[] {paperOf(1 + below(2))};
            case "rule":
                return new int[] {paperOf(7)};
            case "mend":
                return new int[] {paperOf(1)};
            case "falls":
            case "never":
                return new int[] {paperOf(2)};
            case "row":
                return new int[] {below(12)};
            case "line":
                return new int[] {paperOf(1), below(4)};
            default:
                return usualBesides(name);
        }
    }

    private int[] aNewPaper() {
        int kind = new int[] {0, 1, 1, 2, 2, 2, 2, 4, 4, 5, 5, 6, 6, 7}[below(14)];
        switch (kind) {
            case 0:
                return new int[] {kind, 0, 0};
            case 1:
                return new int[] {kind, 10 * below(8) + below(4), below(3) == 0 ? below(10000) : below(100)};
            case 2:
                return new int[] {kind, paperOf(1), below(5) == 0 ? below(19999) - 9999 : below(200) - 100};
            case 5:
                int line = paperOf(1);
                int sum = below(2) == 0 ? Math.max(0, model.told(line, 2)) : below(9999);
                return new int[] {kind, line, 10000 * below(7) + sum % 10000};
            case 6:
                return new int[] {kind, 10 * below(5) + below(5), paperOf(1 + below(4))};
            default:
                return new int[] {kind, paperOf(1), kind == 7 ? 0 : below(10000)};
        }
    }

    private int[] usualBesides(String name) {
        switch (name) {
            case "feed":
                return new int[] {random.nextInt(), 0x20202020, random.nextInt()};
            case "trim":
                return new int[] {below(model.count(15) + 2)};
            case "text":
                return new int[] {below(167)};
            case "of":
                return new int[] {below(model.count(9) + 1), below(3)};
            case "why":
                return new int[] {below(4)};
            case "income":
                return new int[] {below(200), 150 + below(200)};
            case "balance":
                return new int[] {below(14)};
            case "book":
                return new int[] {office(), below(9) == 0 ? -1 : below(2), below(4) == 0 ? below(22) : below(6)};
            case "note":
                return new int[] {office(), below(6), below(3) == 0 ? BudgetHouse.NONE : below(200) - 100};
            case "looks":
                return new int[] {office(), below(6)};
            case "copy":
                return new int[] {office(), below(5), office(), below(5), below(4)};
            case "span":
                return new int[] {below(5), below(3)};
            case "wish":
                return new int[] {below(5), below(3) == 0 ? below(256) : 1 << below(5) | 1 << below(5)};
            case "carry":
                return new int[] {1 + below(9), below(3)};
            case "speaks":
                return new int[] {below(model.count(12) + 1), below(3), below(4)};
            case "speech":
                return new int[] {below(8), below(9) == 0 ? BudgetHouse.NONE : below(3), below(4)};
            case "heard":
                return new int[] {1 + below(8)};
            case "shift":
                int n = 1 + below(8);
                return new int[] {n, below(n)};
            case "offer":
                return new int[] {1 + below(5), 10 * (1 + below(4)), 10 * below(4), below(3) == 0 ? below(256) : 0};
            case "night":
                return new int[] {1 + below(18), 10 * (1 + below(15)), below(3)};
            case "tell":
                return new int[] {below(9)};
            case "check":
                return new int[] {below(2), 1 + below(10), 1 + below(99)};
            case "count":
                return new int[] {below(18)};
            default:
                return new int[0];
        }
    }

    /** Writes texts, most of them whole ones. */
    private static final class Writer {
        private static final String[] KEYS = {"pass", "may", "order", "bind"};
        private static final String[] NAMES = {"ynpk", "khc", "kvol", "ts"};
        private static final String SIGNS = "|&<=>+-*/!()ynpkhcvolts0123456789 a~A{";

        private final Random random;
        private int key;

        Writer(Random random) {
            this.random = random;
        }

        String text() {
            key = random.nextInt(4);
            StringBuilder all = new StringBuilder(random.nextInt(9) == 0 ? " " : "").append(KEYS[key]).append(' ');
            for (int i = random.nextInt(20) == 0 ? 8 : 0; i > 0; i--) {
                all.append("!(".charAt(random.nextInt(2)));
            }
            e(all, random.nextInt(5));
            for (int i = random.nextInt(3) == 0 ? 1 + random.nextInt(2) : 0; i > 0; i--) {
                spoil(all);
            }
            return all.substring(0, Math.min(96, all.length()));
        }

        private void e(StringBuilder all, int deep) {
            int turn = random.nextInt(10);
            if (deep <= 0 || turn < 2) {
                if (random.nextInt(3) == 0) {
                    all.append(random.nextInt(random.nextInt(3) == 0 ? 10000 : 10));
                } else {
                    all.append(NAMES[key].charAt(random.nextInt(NAMES[key].length())));
                }
            } else if (turn < 3) {
                all.append('!');
                e(all, deep - 1);
            } else if (turn < 5) {
                all.append('(');
                e(all, deep - 1);
                all.append(')');
            } else {
                e(all, deep - 1);
                all.append(random.nextInt(4) == 0 ? " " : "").append("|&<=>+-*/".charAt(random.nextInt(9)));
                e(all, deep - 1);
            }
        }

        private void spoil(StringBuilder all) {
            int at = random.nextInt(all.length());
            char sign = SIGNS.charAt(random.nextInt(SIGNS.length()));
            int turn = random.nextInt(3);
            if (turn == 0) {
                all.insert(at, sign);
            } else if (turn == 1) {
                all.setCharAt(at, sign);
            } else if (all.length() > 1) {
                all.deleteCharAt(at);
            }
        }
    }
}
