import java.util.ArrayList;
import java.util.List;

/**
 * The document told once more, as plainly as can be and in another way than the program: minutes go by one by one,
 * what falls is looked for again and again, every shift is tried, a text is worked out as it is read.
 */
final class Model {
    static final int BAD = -1000000001, NO = -1000000002, FULL = -1000000003, NONE = -1000000005,
        NOTHING = -1000000011, KIND = -1000000012, INDEX = -1000000013, SIZE = -1000000014;

    static final class Member {
        int party;
        int tongues;
        int train = NONE;
        int voted;
        boolean in = true;
    }

    static final class Pair {
        int one;
        int other;
        int till;
        boolean broken;
    }

    static final class Paper {
        int kind;
        int a;
        int b;
        int state;
        int on = NONE;
        int mode;
        int came;
        int y = NONE;
        int n = NONE;
        int p = NONE;
        int[] stances = new int[9];
    }

    static final class Sheet {
        int paper;
        int tongue;
        int left;
    }

    static final class Text {
        int key;
        int hour;
        int operands;
        String e;
    }

    static final class State {
        int minute;
        int clock;
        boolean stopped;
        List<Member> members = new ArrayList<>();
        List<Pair> pairs = new ArrayList<>();
        List<Paper> papers = new ArrayList<>();
        List<Sheet> sheets = new ArrayList<>();
        List<Text> texts = new ArrayList<>();
        List<int[]> incomes = new ArrayList<>();
        int[] wishes = new int[9];
        List<boolean[][]> interpreters = new ArrayList<>();
        int[][] speeches = new int[8][];
        List<int[]> offers = new ArrayList<>();

        State copy() {
            State s = new State();
            s.minute = minute;
            s.clock = clock;
            s.stopped = stopped;
            for (Member m : members) {
                Member c = new Member();
                c.party = m.party;
                c.tongues = m.tongues;
                c.train = m.train;
                c.voted = m.voted;
                c.in = m.in;
                s.members.add(c);
            }
            for (Pair p : pairs) {
                Pair c = new Pair();
                c.one = p.one;
                c.other = p.other;
                c.till = p.till;
                c.broken = p.broken;
                s.pairs.add(c);
            }
            for (Paper p : papers) {
                s.papers.add(copyOf(p));
            }
            for (Sheet h : sheets) {
                Sheet c = new Sheet();
                c.paper = h.paper;
                c.tongue = h.tongue;
                c.left = h.left;
                s.sheets.add(c);
            }
            s.texts.addAll(texts);
            s.incomes.addAll(incomes);
            s.wishes = wishes.clone();
            for (boolean[][] i : interpreters) {
                boolean[][] c = new boolean[7][];
                for (int t = 0; t < 7; t++) {
                    c[t] = i[t].clone();
                }
                s.interpreters.add(c);
            }
            s.speeches = speeches.clone();
            s.offers.addAll(offers);
            return s;
        }

        static Paper copyOf(Paper p) {
            Paper c = new Paper();
            c.kind = p.kind;
            c.a = p.a;
            c.b = p.b;
            c.state = p.state;
            c.on = p.on;
            c.mode = p.mode;
            c.came = p.came;
            c.y = p.y;
            c.n = p.n;
            c.p = p.p;
            c.stances = p.stances.clone();
            return c;
        }

        void oneMinute() {
            minute++;
            if (!stopped) {
                clock++;
            }
            // Behind the last minute nothing comes any more.
            if (minute > 9999) {
                return;
            }
            for (int i = sheets.size() - 1; i >= 0; i--) {
                Sheet h = sheets.get(i);
                h.left--;
                if (h.left == 0) {
                    papers.get(h.paper).came |= 1 << h.tongue;
                    sheets.remove(i);
                }
            }
            for (Member m : members) {
                if (m.train == minute) {
                    m.in = false;
                }
            }
        }

        int in() {
            int n = 0;
            for (Member m : members) {
                n += m.in ? 1 : 0;
            }
            return n;
        }
    }

    private State s = new State();
    private State image;
    private final int[][] books = new int[8][];
    private final boolean[] floats = new boolean[8];
    private final List<Integer> waiting = new ArrayList<>();
    private final List<Integer> tape = new ArrayList<>();

    private static boolean in(int v, int least, int most) {
        return v >= least && v <= most;
    }

    private boolean isMember(int m) {
        return in(m, 0, s.members.size() - 1);
    }

    private boolean isPaper(int p) {
        return in(p, 0, s.papers.size() - 1);
    }

    private boolean isKind(int p, int kind) {
        return isPaper(p) && s.papers.get(p).kind == kind;
    }

    private boolean isChange(int p) {
        return isKind(p, 2) || isKind(p, 3);
    }

    int member(int party, int tongues) {
        if (!in(party, 0, 8) || !in(tongues, 0, 127)) {
            return BAD;
        }
        if (s.members.size() == 20) {
            return FULL;
        }
        Member m = new Member();
        m.party = party;
        m.tongues = tongues;
        s.members.add(m);
        return s.members.size() - 1;
    }

    int is(int member, int what) {
        if (!isMember(member) || !in(what, 0, 5)) {
            return BAD;
        }
        Member m = s.members.get(member);
        int[] facts = {m.party, m.tongues, m.train, m.in ? 1 : 0, pairOf(member), m.voted};
        return facts[what];
    }

    private boolean holds(Pair p) {
        return !p.broken && s.minute < p.till;
    }

    private int pairOf(int member) {
        for (int i = 0; i < s.pairs.size(); i++) {
            Pair p = s.pairs.get(i);
            if (holds(p) && (p.one == member || p.other == member)) {
                return i;
            }
        }
        return NONE;
    }

    int train(int member, int minute) {
        if (!isMember(member) || minute != NONE && !(minute > s.minute && minute <= 9999)) {
            return BAD;
        }
        int was = s.members.get(member).train;
        s.members.get(member).train = minute;
        return was;
    }

    int go(int member, int on) {
        if (!isMember(member) || on != 0 && on != 1) {
            return BAD;
        }
        int was = s.members.get(member).in ? 1 : 0;
        s.members.get(member).in = on == 1;
        return was;
    }

    int pair(int one, int other, int till) {
        if (!isMember(one) || !isMember(other) || one == other || till <= s.minute || till > 9999) {
            return BAD;
        }
        if (pairOf(one) >= 0 || pairOf(other) >= 0) {
            return NO;
        }
        if (s.pairs.size() == 10) {
            return FULL;
        }
        Pair p = new Pair();
        p.one = one;
        p.other = other;
        p.till = till;
        s.pairs.add(p);
        return s.pairs.size() - 1;
    }

    int breaks(int pair) {
        if (!in(pair, 0, s.pairs.size() - 1)) {
            return BAD;
        }
        if (!holds(s.pairs.get(pair))) {
            return NO;
        }
        s.pairs.get(pair).broken = true;
        return 1;
    }

    int clock(int on) {
        if (on != 0 && on != 1) {
            return BAD;
        }
        int was = s.stopped ? 1 : 0;
        s.stopped = on == 1;
        return was;
    }

    int run(int n) {
        if (!in(n, 1, 240)) {
            return BAD;
        }
        if (s.minute + n > 9999) {
            return FULL;
        }
        for (int i = 0; i < n; i++) {
            s.oneMinute();
        }
        return s.minute;
    }

    private int add(int kind, int a, int b, int on, int mode) {
        if (s.papers.size() == 40) {
            return FULL;
        }
        Paper p = new Paper();
        p.kind = kind;
        p.a = a;
        p.b = b;
        p.on = on;
        p.mode = mode;
        s.papers.add(p);
        return s.papers.size() - 1;
    }

    int paper(int kind, int a, int b) {
        boolean good;
        if (kind == 0) {
            good = a == 0 && b == 0;
        } else if (kind == 1) {
            good = in(a, 0, 79) && a % 10 <= 3 && in(b, 0, 9999);
        } else if (kind == 2) {
            good = isKind(a, 1) && in(b, -9999, 9999);
        } else if (kind == 4) {
            good = isKind(a, 1) && in(b, 0, 9999);
        } else if (kind == 5) {
            good = isKind(a, 1) && in(b, 0, 69999);
        } else if (kind == 6) {
            good = in(a, 0, 88) && a % 10 != 9 && a % 11 != 0 && isPaper(b) && in(s.papers.get(b).kind, 1, 4);
        } else {
            good = kind == 7 && isKind(a, 1) && b == 0;
        }
        return good ? add(kind, a, b, NONE, 0) : BAD;
    }

    int hung(int line, int more, int on, int mode) {
        if (!isKind(line, 1) || !in(more, -9999, 9999) || !isChange(on) || !in(mode, 0, 1)) {
            return BAD;
        }
        return add(3, line, more, on, mode);
    }

    int told(int paper, int what) {
        if (!isPaper(paper) || !in(what, 0, 9)) {
            return BAD;
        }
        Paper p = s.papers.get(paper);
        int[] facts = {p.kind, p.a, p.b, p.state, p.on, p.mode, p.came, p.y, p.n, p.p};
        return facts[what];
    }

    int as(int paper, int kind) {
        if (!isPaper(paper) || !in(kind, 0, 7)) {
            return BAD;
        }
        int[] above = {-1, 0, 1, 2, 0, 0, 0, 0};
        for (int k = s.papers.get(paper).kind; k >= 0; k = above[k]) {
            if (k == kind) {
                return s.papers.get(paper).b;
            }
        }
        return KIND;
    }

    int stance(int party, int paper, int v) {
        if (!in(party, 0, 8) || !isPaper(paper) || !in(v, -9, 9)) {
            return BAD;
        }
        int was = s.papers.get(paper).stances[party];
        s.papers.get(paper).stances[party] = v;
        return was;
    }

    int print(int paper, int tongue, int later) {
        if (!isPaper(paper) || !in(tongue, 0, 6) || !in(later, 0, 99)) {
            return BAD;
        }
        if (s.sheets.size() == 30) {
            return FULL;
        }
        if (later == 0) {
            s.papers.get(paper).came |= 1 << tongue;
        } else {
            Sheet h = new Sheet();
            h.paper = paper;
            h.tongue = tongue;
            h.left = later;
            s.sheets.add(h);
        }
        return s.sheets.size();
    }

    int read(int member, int paper) {
        if (!isMember(member) || !isPaper(paper)) {
            return BAD;
        }
        for (int t = 0; t < 7; t++) {
            if ((s.members.get(member).tongues >> t & 1) == 1 && (s.papers.get(paper).came >> t & 1) == 1) {
                return 1;
            }
        }
        return 0;
    }

    /** yes 'y', no 'n', nothing '.', not present ' ', of each member. */
    private char[] voices(int paper) {
        char[] all = new char[s.members.size()];
        for (int i = 0; i < all.length; i++) {
            Member m = s.members.get(i);
            all[i] = '.';
            if (!m.in || pairOf(i) >= 0) {
                all[i] = ' ';
                continue;
            }
            if (read(i, paper) == 1) {
                int v = s.papers.get(paper).stances[m.party];
                all[i] = v > 0 ? 'y' : v < 0 ? 'n' : '.';
            }
            for (Paper d : s.papers) {
                if (d.kind == 6 && d.state == 0 && d.b == paper && d.a / 10 == m.party) {
                    all[i] = 'y';
                }
            }
        }
        return all;
    }

    private int count(char[] voices, char what) {
        int n = 0;
        for (char v : voices) {
            n += v == what ? 1 : 0;
        }
        return n;
    }

    private boolean passes(int kind, int y, int n, int p) {
        int t = why(0);
        return t < 0 ? y > n : worth(t, y, n, p, kind) != 0;
    }

    int would(int paper, int what) {
        if (!isPaper(paper) || !in(what, 0, 3)) {
            return BAD;
        }
        int kind = s.papers.get(paper).kind;
        if (kind == 0 || kind > 4) {
            return KIND;
        }
        char[] voices = voices(paper);
        int y = count(voices, 'y');
        int n = count(voices, 'n');
        int p = y + n + count(voices, '.');
        int[] facts = {y, n, p, passes(kind, y, n, p) ? 1 : 0};
        return facts[what];
    }

    int put(int paper) {
        if (!isPaper(paper)) {
            return BAD;
        }
        Paper p = s.papers.get(paper);
        if (p.kind != 1 && p.kind != 2 && p.kind != 3) {
            return KIND;
        }
        boolean ready = p.state == 0;
        if (p.kind > 1) {
            ready &= s.papers.get(p.a).state == 0;
        }
        if (p.kind == 3 && p.mode == 1) {
            ready &= s.papers.get(p.on).state == 1;
        }
        int may = why(1);
        if (may >= 0) {
            ready &= worth(may, p.kind, s.clock / 60, s.clock % 60, 0) != 0;
        }
        if (!ready) {
            return NO;
        }
        char[] voices = voices(paper);
        p.y = count(voices, 'y');
        p.n = count(voices, 'n');
        p.p = p.y + p.n + count(voices, '.');
        for (int i = 0; i < voices.length; i++) {
            s.members.get(i).voted += voices[i] == 'y' || voices[i] == 'n' ? 1 : 0;
        }
        boolean passed = passes(p.kind, p.y, p.n, p.p);
        p.state = passed ? 1 : 2;
        for (Paper q : s.papers) {
            if (p.kind == 1 && q.a == paper && q.state == 0) {
                if (q.kind == 4) {
                    q.state = passed ? 1 : 3;
                }
                if ((q.kind == 2 || q.kind == 3) && !passed) {
                    q.state = 3;
                }
            }
        }
        if (p.kind > 1 && passed) {
            Paper line = s.papers.get(p.a);
            line.b = Math.min(9999, Math.max(0, line.b + p.b));
        }
        fall(s.papers);
        deals();
        return passed ? 1 : 0;
    }

    private static int fall(List<Paper> papers) {
        int fallen = 0;
        boolean again = true;
        while (again) {
            again = false;
            for (Paper h : papers) {
                if (h.kind == 3 && h.state == 0) {
                    int on = papers.get(h.on).state;
                    if (h.mode == 0 && on == 1 || h.mode == 1 && on >= 2) {
                        h.state = 3;
                        fallen++;
                        again = true;
                        break;
                    }
                }
            }
        }
        return fallen;
    }

    private void deals() {
        for (Paper d : s.papers) {
            if (d.kind == 6 && d.state == 0 && s.papers.get(d.b).state != 0) {
                d.state = s.papers.get(d.b).state == 1 ? 1 : 2;
            }
        }
    }

    int rule(int paper) {
        if (!isPaper(paper)) {
            return BAD;
        }
        Paper r = s.papers.get(paper);
        if (r.kind != 7) {
            return KIND;
        }
        Paper line = s.papers.get(r.a);
        if (r.state != 0 || line.state != 1) {
            return NO;
        }
        int voided = 1;
        line.state = 4;
        for (Paper q : s.papers) {
            if ((q.kind == 2 || q.kind == 3) && q.a == r.a && q.state == 1) {
                q.state = 4;
                voided++;
            }
        }
        fall(s.papers);
        for (Paper q : s.papers) {
            if (q.kind == 4 && q.a == r.a && q.state != 4) {
                q.state = 4;
                voided++;
            }
        }
        r.state = 1;
        deals();
        return voided;
    }

    int mend(int paper) {
        if (!isPaper(paper)) {
            return BAD;
        }
        if (!isKind(paper, 1)) {
            return KIND;
        }
        if (s.papers.get(paper).state != 4) {
            return NO;
        }
        s.papers.get(paper).state = 0;
        return 1;
    }

    private int refusesChange(int paper) {
        if (!isPaper(paper)) {
            return BAD;
        }
        if (!isChange(paper)) {
            return KIND;
        }
        return s.papers.get(paper).state == 0 ? 0 : NO;
    }

    int falls(int paper) {
        if (refusesChange(paper) != 0) {
            return refusesChange(paper);
        }
        List<Paper> papers = s.copy().papers;
        papers.get(paper).state = 1;
        return fall(papers);
    }

    int never(int paper) {
        if (refusesChange(paper) != 0) {
            return refusesChange(paper);
        }
        Paper p = s.papers.get(paper);
        if (s.papers.get(p.a).state != 0) {
            return 1;
        }
        if (p.kind != 3 || p.mode == 0) {
            return 0;
        }
        int on = s.papers.get(p.on).state;
        return on == 0 ? never(p.on) : on == 1 ? 0 : 1;
    }

    private List<Integer> theRow() {
        List<Integer> row = new ArrayList<>();
        for (int p = 0; p < s.papers.size(); p++) {
            if (isChange(p) && s.papers.get(p).state == 0) {
                row.add(p);
            }
        }
        row.sort((p, q) -> Integer.compare(worthInOrder(q), worthInOrder(p)));
        return row;
    }

    private int worthInOrder(int change) {
        Paper p = s.papers.get(change);
        Paper line = s.papers.get(p.a);
        return why(2) < 0 ? 0 : worth(why(2), p.kind, p.b, line.a / 10, line.a % 10);
    }

    int row(int i) {
        if (i < 0) {
            return BAD;
        }
        List<Integer> row = theRow();
        return i < row.size() ? row.get(i) : NONE;
    }

    int line(int paper, int what) {
        if (!isPaper(paper) || !in(what, 0, 3)) {
            return BAD;
        }
        if (!isKind(paper, 1)) {
            return KIND;
        }
        int own = s.papers.get(paper).b;
        int sum = own;
        int best = why(3) < 0 ? 0 : worth(why(3), 0, own, 0, 0);
        int unlike = 0;
        int changes = 0;
        int riders = 0;
        for (Paper q : s.papers) {
            if (q.a != paper) {
                continue;
            }
            if (q.kind == 5 && q.state == 0) {
                int v = why(3) < 0 ? 0 : worth(why(3), q.b / 10000, q.b % 10000, 0, 0);
                if (v > best) {
                    best = v;
                    sum = q.b % 10000;
                }
                unlike += q.b % 10000 == own ? 0 : 1;
            }
            changes += (q.kind == 2 || q.kind == 3) && q.state == 0 ? 1 : 0;
            riders += q.kind == 4 ? 1 : 0;
        }
        int[] facts = {sum, unlike, changes, riders};
        return facts[what];
    }

    int feed(int a, int b, int c) {
        if (tape.size() + 12 > 96) {
            return FULL;
        }
        for (int v : new int[] {a, b, c}) {
            tape.add(v >>> 24);
            tape.add(v >>> 16 & 255);
            tape.add(v >>> 8 & 255);
            tape.add(v & 255);
        }
        return tape.size();
    }

    int trim(int n) {
        if (n < 0 || n > tape.size()) {
            return BAD;
        }
        while (tape.size() > n) {
            tape.remove(tape.size() - 1);
        }
        return n;
    }

    int text(int hour) {
        StringBuilder bytes = new StringBuilder();
        for (int b : tape) {
            bytes.append((char) b);
        }
        tape.clear();
        if (!in(hour, 0, 166)) {
            return BAD;
        }
        Walk walk = new Walk(bytes.toString(), null);
        try {
            walk.text();
        } catch (Fault f) {
            return -100 - f.place;
        }
        if (s.texts.size() == 12) {
            return FULL;
        }
        Text t = new Text();
        t.key = walk.key;
        t.hour = hour;
        t.operands = walk.operands;
        t.e = bytes.toString();
        s.texts.add(t);
        return s.texts.size() - 1;
    }

    int of(int text, int what) {
        if (!in(text, 0, s.texts.size() - 1) || !in(what, 0, 2)) {
            return BAD;
        }
        Text t = s.texts.get(text);
        return what == 0 ? t.key : what == 1 ? t.hour : t.operands;
    }

    int why(int key) {
        if (!in(key, 0, 3)) {
            return BAD;
        }
        for (int hour = s.clock / 60; hour >= 0; hour--) {
            for (int t = s.texts.size() - 1; t >= 0; t--) {
                if (s.texts.get(t).key == key && s.texts.get(t).hour == hour) {
                    return t;
                }
            }
        }
        return NONE;
    }

    private int worth(int text, int... names) {
        Walk walk = new Walk(s.texts.get(text).e, names);
        try {
            return walk.text();
        } catch (Fault f) {
            throw new IllegalStateException("a text that was read has a fault");
        }
    }

    @SuppressWarnings("serial")
    private static final class Fault extends Exception {
        final int place;

        Fault(int place) {
            this.place = place;
        }
    }

    /** Walks through a text by the rows of its grammar, and works it out on the way. */
    private static final class Walk {
        private static final String[] KEYS = {"pass", "may", "order", "bind"};
        private static final String[] NAMES = {"ynpk", "khc", "kvol", "ts"};
        private final String all;
        private final int[] values;
        private int at;
        private int brackets;
        private int nots;
        int key;
        int operands;

        Walk(String all, int[] values) {
            this.all = all;
            this.values = values;
        }

        private char next() {
            while (at < all.length() && all.charAt(at) == ' ') {
                at++;
            }
            return at < all.length() ? all.charAt(at) : 0xffff;
        }

        private String word() {
            int end = at;
            boolean digits = end < all.length() && Character.isDigit(all.charAt(end)) && all.charAt(end) < 128;
            while (end < all.length() && (digits ? in(all.charAt(end), '0', '9') : in(all.charAt(end), 'a', 'z'))) {
                end++;
            }
            return all.substring(at, end);
        }

        int text() throws Fault {
            next();
            String word = word();
            key = -1;
            for (int k = 0; k < 4; k++) {
                if (KEYS[k].equals(word)) {
                    key = k;
                }
            }
            if (key < 0) {
                throw new Fault(at);
            }
            at += word.length();
            if (at < all.length() && in(all.charAt(at), '0', '9')) {
                throw new Fault(at);
            }
            int v = or();
            if (next() != 0xffff) {
                throw new Fault(at);
            }
            return v;
        }

        private int or() throws Fault {
            int v = and();
            while (next() == '|') {
                at++;
                int w = and();
                v = v != 0 | w != 0 ? 1 : 0;
            }
            return v;
        }

        private int and() throws Fault {
            int v = test();
            while (next() == '&') {
                at++;
                int w = test();
                v = v != 0 & w != 0 ? 1 : 0;
            }
            return v;
        }

        private int test() throws Fault {
            int v = sum();
            char c = next();
            if (c == '<' || c == '=' || c == '>') {
                at++;
                int w = sum();
                boolean held = c == '<' ? v < w : c == '=' ? v == w : v > w;
                return held ? 1 : 0;
            }
            return v;
        }

        private int sum() throws Fault {
            int v = term();
            for (char c = next(); c == '+' || c == '-'; c = next()) {
                at++;
                int w = term();
                v = (int) (c == '+' ? (long) v + w : (long) v - w);
            }
            return v;
        }

        private int term() throws Fault {
            int v = part();
            for (char c = next(); c == '*' || c == '/'; c = next()) {
                at++;
                int w = part();
                v = (int) (c == '*' ? (long) v * w : w == 0 ? 0 : (long) v / w);
            }
            return v;
        }

        private int part() throws Fault {
            char c = next();
            int place = at;
            if (c == '!') {
                nots++;
                if (nots == 9) {
                    throw new Fault(place);
                }
                at++;
                int v = part();
                nots--;
                return v == 0 ? 1 : 0;
            }
            if (c == '(') {
                brackets++;
                if (brackets == 9) {
                    throw new Fault(place);
                }
                at++;
                int v = or();
                if (next() != ')') {
                    throw new Fault(at);
                }
                at++;
                brackets--;
                return v;
            }
            String word = word();
            operands++;
            if (in(c, '0', '9') && word.length() <= 4) {
                at += word.length();
                return Integer.parseInt(word);
            }
            int name = word.length() == 1 ? NAMES[key].indexOf(c) : -1;
            if (name < 0) {
                throw new Fault(place);
            }
            at++;
            return values == null ? 0 : values[name];
        }
    }

    int income(int least, int most) {
        if (!in(least, 0, 9999) || !in(most, least, 9999)) {
            return BAD;
        }
        if (s.incomes.size() == 8) {
            return FULL;
        }
        s.incomes.add(new int[] {least, most});
        return s.incomes.size() - 1;
    }

    int balance(int what) {
        if (!in(what, 0, 13)) {
            return BAD;
        }
        int all = 0;
        int some = 0;
        for (Paper p : s.papers) {
            if (p.kind == 1 && p.state <= 1) {
                all += p.b;
                some += p.a / 10 + 2 == what && what < 10 || p.a % 10 + 10 == what ? p.b : 0;
            }
        }
        if (what > 1) {
            return some;
        }
        int money = 0;
        for (int[] income : s.incomes) {
            money += income[what];
        }
        return money - all;
    }

    int first() {
        State was = s;
        List<Integer> row = theRow();
        s = s.copy();
        int found = NONE;
        for (int change : row) {
            Paper p = s.papers.get(change);
            Paper line = s.papers.get(p.a);
            line.b = Math.min(9999, Math.max(0, line.b + p.b));
            if (balance(1) < 0) {
                found = change;
                break;
            }
        }
        s = was;
        return found;
    }

    int book(int office, int sort, int n) {
        if (!in(office, 0, 7) || !in(sort, -1, 1) || sort >= 0 && n > 20) {
            return BAD;
        }
        if (sort >= 0 && n < 0) {
            return SIZE;
        }
        books[office] = sort < 0 ? null : new int[n];
        floats[office] = sort == 1;
        return sort < 0 ? 0 : n;
    }

    int note(int office, int year, int v) {
        if (!in(office, 0, 7)) {
            return BAD;
        }
        if (books[office] == null) {
            return NOTHING;
        }
        if (!in(year, 0, books[office].length - 1)) {
            return INDEX;
        }
        if (!floats[office] && v == NONE) {
            return KIND;
        }
        if (floats[office] && v != NONE && !in(v, -100000, 100000)) {
            return BAD;
        }
        books[office][year] = v;
        return 1;
    }

    int looks(int office, int year) {
        if (!in(office, 0, 7)) {
            return BAD;
        }
        if (books[office] == null) {
            return NOTHING;
        }
        if (!in(year, 0, books[office].length - 1)) {
            return INDEX;
        }
        if (books[office][year] != NONE) {
            return books[office][year];
        }
        return year == 0 ? KIND : looks(office, year - 1);
    }

    int copy(int from, int year, int to, int at, int many) {
        if (!in(from, 0, 7) || !in(to, 0, 7)) {
            return BAD;
        }
        if (books[from] == null || books[to] == null) {
            return NOTHING;
        }
        if (floats[from] != floats[to]) {
            return KIND;
        }
        if (year < 0 || at < 0 || many < 0 || (long) year + many > books[from].length
            || (long) at + many > books[to].length) {
            return INDEX;
        }
        int[] was = books[from].clone();
        for (int i = 0; i < many; i++) {
            books[to][at + i] = was[year + i];
        }
        return many;
    }

    int span(int year, int what) {
        if (year < 0 || !in(what, 0, 2)) {
            return BAD;
        }
        List<Integer> known = new ArrayList<>();
        for (int office = 0; office < 8; office++) {
            boolean there = books[office] != null && year < books[office].length;
            for (int y = year; there && y >= 0; y--) {
                if (books[office][y] != NONE) {
                    known.add(books[office][y]);
                    break;
                }
            }
        }
        known.sort(Integer::compare);
        if (what == 0) {
            return 8 - known.size();
        }
        if (known.isEmpty()) {
            return NONE;
        }
        return known.get(what == 1 ? 0 : known.size() - 1);
    }

    int wish(int party, int set) {
        if (!in(party, 0, 8) || !in(set, 0, 255)) {
            return BAD;
        }
        int was = s.wishes[party];
        s.wishes[party] = set;
        return was;
    }

    int carry(int n, int what) {
        if (!in(n, 1, 20) || !in(what, 0, 2)) {
            return BAD;
        }
        List<Paper> lines = new ArrayList<>();
        for (Paper p : s.papers) {
            if (p.kind == 1 && lines.size() < 8) {
                lines.add(p);
            }
        }
        int[] best = null;
        for (int set = 0; set < 1 << lines.size(); set++) {
            int sum = 0;
            int many = 0;
            for (int i = 0; i < lines.size(); i++) {
                if ((set & 1 << i) != 0) {
                    sum += lines.get(i).b;
                    many++;
                }
            }
            int votes = 0;
            for (Member m : s.members) {
                int wished = s.wishes[m.party] & (1 << lines.size()) - 1;
                votes += m.in && wished != 0 && (wished | set) == set ? 1 : 0;
            }
            int[] found = {set, sum, votes, many};
            if (votes >= n && (best == null || sum < best[1] || sum == best[1] && many < best[3])) {
                best = found;
            }
        }
        return best == null ? NONE : best[what];
    }

    int interpreter() {
        if (s.interpreters.size() == 6) {
            return FULL;
        }
        s.interpreters.add(new boolean[7][7]);
        return s.interpreters.size() - 1;
    }

    int speaks(int interpreter, int one, int other) {
        if (!in(interpreter, 0, s.interpreters.size() - 1) || !in(one, 0, 6) || !in(other, 0, 6) || one == other) {
            return BAD;
        }
        boolean[][] twos = s.interpreters.get(interpreter);
        twos[one][other] = true;
        twos[other][one] = true;
        int n = 0;
        for (boolean[] row : twos) {
            for (boolean b : row) {
                n += b ? 1 : 0;
            }
        }
        return n / 2;
    }

    int speech(int hour, int one, int other) {
        if (!in(hour, 0, 7)) {
            return BAD;
        }
        if (one == NONE || other == NONE) {
            s.speeches[hour] = null;
            return 1;
        }
        if (!in(one, 0, 6) || !in(other, 0, 6) || one == other) {
            return BAD;
        }
        s.speeches[hour] = new int[] {one, other};
        return 1;
    }

    private int[] bestShift;
    private int bestHeard;

    /** Tries all shifts, the first ones first; leaves those out that can't become better. */
    private void tryShifts(int[] shift, int hour, int heard) {
        if (heard + shift.length - hour <= bestHeard) {
            return;
        }
        if (hour == shift.length) {
            bestHeard = heard;
            bestShift = shift.clone();
            return;
        }
        for (int i = 0; i <= s.interpreters.size(); i++) {
            boolean none = i == s.interpreters.size();
            if (!none && hour >= 2 && shift[hour - 1] == i && shift[hour - 2] == i) {
                continue;
            }
            shift[hour] = none ? NONE : i;
            int[] speech = s.speeches[hour];
            boolean hears = !none && speech != null && s.interpreters.get(i)[speech[0]][speech[1]];
            tryShifts(shift, hour + 1, heard + (hears ? 1 : 0));
        }
    }

    int heard(int n) {
        if (!in(n, 1, 8)) {
            return BAD;
        }
        bestHeard = -1;
        tryShifts(new int[n], 0, 0);
        return bestHeard;
    }

    int shift(int n, int hour) {
        if (!in(n, 1, 8) || !in(hour, 0, n - 1)) {
            return BAD;
        }
        heard(n);
        return bestShift[hour];
    }

    int offer(int votes, int minutes, int price, int against) {
        if (!in(votes, 1, 9) || !in(minutes, 1, 99) || !in(price, 0, 999) || !in(against, 0, 255)) {
            return BAD;
        }
        if (s.offers.size() == 8) {
            return FULL;
        }
        s.offers.add(new int[] {votes, minutes, price, against});
        return s.offers.size() - 1;
    }

    private int[] theNight(int n, int m) {
        int[] best = null;
        for (int set = 0; set < 1 << s.offers.size(); set++) {
            int[] sums = new int[3];
            boolean good = true;
            for (int i = 0; i < s.offers.size(); i++) {
                for (int j = 0; j < s.offers.size(); j++) {
                    boolean both = i != j && (set & 1 << i) != 0 && (set & 1 << j) != 0;
                    good &= !(both && (s.offers.get(i)[3] & 1 << j) != 0);
                }
                for (int k = 0; k < 3; k++) {
                    sums[k] += (set & 1 << i) != 0 ? s.offers.get(i)[k] : 0;
                }
            }
            good &= sums[0] >= n && sums[1] <= m;
            if (good && (best == null || sums[2] < best[1] || sums[2] == best[1] && sums[1] < best[2])) {
                best = new int[] {set, sums[2], sums[1]};
            }
        }
        return best;
    }

    int night(int n, int m, int what) {
        if (!in(n, 1, 99) || !in(m, 1, 999) || !in(what, 0, 2)) {
            return BAD;
        }
        int[] best = theNight(n, m);
        return best == null ? NONE : best[what];
    }

    int tell(int v) {
        if (waiting.size() == 60) {
            return FULL;
        }
        waiting.add(v);
        return waiting.size();
    }

    /** What check() of these would find due; null if it would be refused. */
    List<Integer> due(int what, int n, int m) {
        List<Integer> due = new ArrayList<>();
        if (what == 0) {
            int[] best = in(n, 1, 99) && in(m, 1, 999) ? theNight(n, m) : null;
            if (best == null) {
                return null;
            }
            int price = 0;
            for (int i = 0; i < s.offers.size(); i++) {
                if ((best[0] & 1 << i) != 0) {
                    price += s.offers.get(i)[2];
                    due.add(i);
                    due.add(price);
                }
            }
            return due;
        }
        if (what != 1 || !in(n, 1, 30) || image == null) {
            return null;
        }
        State then = image.copy();
        for (int i = 0; i < n; i++) {
            for (int j = 0; j < 10; j++) {
                then.oneMinute();
            }
            due.add(then.in());
            due.add(then.sheets.size());
        }
        return due;
    }

    int check(int what, int n, int m) {
        List<Integer> told = new ArrayList<>(waiting);
        waiting.clear();
        if (what == 0 && (!in(n, 1, 99) || !in(m, 1, 999)) || what == 1 && !in(n, 1, 30) || !in(what, 0, 1)) {
            return BAD;
        }
        if (what == 1 && image == null) {
            return NO;
        }
        List<Integer> due = due(what, n, m);
        if (due == null) {
            return NONE;
        }
        if (told.equals(due)) {
            return 0;
        }
        int same = 0;
        while (same < told.size() && same < due.size() && told.get(same).equals(due.get(same))) {
            same++;
        }
        return 1 + same;
    }

    int keep() {
        image = s.copy();
        return s.minute;
    }

    int back() {
        if (image == null) {
            return NO;
        }
        s = image.copy();
        return s.minute;
    }

    int count(int what) {
        int[] states = new int[5];
        for (Paper p : s.papers) {
            states[p.state]++;
        }
        int pairs = 0;
        for (Pair p : s.pairs) {
            pairs += holds(p) ? 1 : 0;
        }
        int[] all = {s.members.size(), s.in(), pairs, s.papers.size(), states[0], states[1], states[2], states[3],
            states[4], s.texts.size(), s.sheets.size(), s.incomes.size(), s.interpreters.size(), s.offers.size(),
            waiting.size(), tape.size(), s.minute, s.clock};
        return in(what, 0, 17) ? all[what] : BAD;
    }
}
