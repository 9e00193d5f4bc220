/**
 * A house that votes a land's money through a night. The document is ../shared/DOC.md; words in capitals there
 * are the names here. Every row is made in a constructor and used again, so that no call makes an object.
 */
public final class BudgetHouse {
    public static final int BAD = -1000000001, NO = -1000000002, FULL = -1000000003, NONE = -1000000005,
        NOTHING = -1000000011, KIND = -1000000012, INDEX = -1000000013, SIZE = -1000000014;

    private static final int LAST_MINUTE = 9999, HOUR = 60, LAST_HOUR = LAST_MINUTE / HOUR;
    private static final int MOST_SUM = 9999, TONGUE_STEP = 10000;
    private static final int PARTIES = 9, TONGUES = 7, OFFICES = 8, LANDS = 4;
    private static final int MEMBERS = 20, PAIRS = 10, PAPERS = 40, SHEETS = 30, TEXTS = 12, TAPE = 96;
    private static final int INCOMES = 8, YEARS = 20, WISHED = 8, INTERPRETERS = 6, SPEECHES = 8, OFFERS = 8;
    private static final int WAITING = 60, TOLD_STEPS = 30, TOLD_MINUTES = 10;

    private static final int PAPER = 0, LINE = 1, CHANGE = 2, HUNG = 3, RIDER = 4, TONGUE = 5, DEAL = 6, RULING = 7;
    private static final int OPEN = 0, PASSED = 1, LOST = 2, FALLEN = 3, VOIDED = 4;
    private static final int PASS = 0, MAY = 1, ORDER = 2, BIND = 3, KEYS = 4;

    private final House now = new House();
    private final House image = new House();
    private boolean kept;
    private final Tape tape = new Tape();
    private final Reader reader = new Reader();
    private final Books books = new Books();
    private int waitingSize;
    private final int[] waiting = new int[WAITING];
    private final int[] due = new int[WAITING];

    public BudgetHouse() {
    }

    // ---- members

    public int member(int party, int tongues) {
        return now.members.add(party, tongues);
    }

    public int is(int member, int what) {
        return now.members.factOf(member, what, now.minute);
    }

    public int train(int member, int minute) {
        return now.members.setTrain(member, minute, now.minute);
    }

    public int go(int member, int on) {
        return now.members.setIn(member, on);
    }

    public int pair(int one, int other, int till) {
        return now.members.addPair(one, other, till, now.minute);
    }

    public int breaks(int pair) {
        return now.members.breakPair(pair, now.minute);
    }

    public int clock(int on) {
        return now.setStopped(on);
    }

    public int run(int n) {
        return now.goOn(n);
    }

    // ---- papers

    public int paper(int kind, int a, int b) {
        return now.papers.add(kind, a, b);
    }

    public int hung(int line, int more, int on, int mode) {
        return now.papers.addHung(line, more, on, mode);
    }

    public int told(int paper, int what) {
        return now.papers.factOf(paper, what);
    }

    public int as(int paper, int kind) {
        return now.papers.seenAs(paper, kind);
    }

    public int stance(int party, int paper, int v) {
        return now.papers.setStance(party, paper, v);
    }

    public int print(int paper, int tongue, int later) {
        return now.sheets.add(now.papers, paper, tongue, later, now.minute);
    }

    public int read(int member, int paper) {
        if (!now.members.has(member) || !now.papers.has(paper)) {
            return BAD;
        }
        return now.hasRead(member, paper) ? 1 : 0;
    }

    public int would(int paper, int what) {
        return now.voteFact(paper, what);
    }

    public int put(int paper) {
        return now.putToVote(paper);
    }

    public int rule(int paper) {
        return now.letRulingWork(paper);
    }

    public int mend(int paper) {
        return now.papers.mendLine(paper);
    }

    public int falls(int paper) {
        return now.papers.fallingWith(paper);
    }

    public int never(int paper) {
        return now.papers.neverOf(paper);
    }

    public int row(int i) {
        return now.inRow(i);
    }

    public int line(int paper, int what) {
        return now.lineFact(paper, what);
    }

    // ---- texts

    public int feed(int a, int b, int c) {
        return tape.take(a, b, c);
    }

    public int trim(int n) {
        return tape.cutTo(n);
    }

    public int text(int hour) {
        if (!within(hour, 0, LAST_HOUR)) {
            tape.useUp();
            return BAD;
        }
        int fault = reader.faultOf(tape);
        tape.useUp();
        return fault == NONE ? now.texts.add(reader, hour) : -100 - fault;
    }

    public int of(int text, int what) {
        return now.texts.factOf(text, what);
    }

    public int why(int key) {
        return within(key, 0, KEYS - 1) ? now.texts.counting(key, now.hourNow()) : BAD;
    }

    // ---- money

    public int income(int least, int most) {
        return now.addIncome(least, most);
    }

    public int balance(int what) {
        return now.balanceFact(what);
    }

    public int first() {
        return now.breakInRow();
    }

    public int book(int office, int sort, int n) {
        return books.open(office, sort, n);
    }

    public int note(int office, int year, int v) {
        return books.write(office, year, v);
    }

    public int looks(int office, int year) {
        return books.readAt(office, year);
    }

    public int copy(int from, int year, int to, int at, int many) {
        return books.carryOver(from, year, to, at, many);
    }

    public int span(int year, int what) {
        return books.spanOf(year, what);
    }

    // ---- what carries, shifts, the night

    public int wish(int party, int set) {
        return now.wishes.setWish(party, set);
    }

    public int carry(int n, int what) {
        return now.wishes.leastThatCarries(now.papers, now.members, n, what);
    }

    public int interpreter() {
        return now.shifts.add();
    }

    public int speaks(int interpreter, int one, int other) {
        return now.shifts.addTwo(interpreter, one, other);
    }

    public int speech(int hour, int one, int other) {
        return now.shifts.setSpeech(hour, one, other);
    }

    public int heard(int n) {
        return now.shifts.mostHeard(n);
    }

    public int shift(int n, int hour) {
        return now.shifts.interpreterIn(n, hour);
    }

    public int offer(int votes, int minutes, int price, int against) {
        return now.offers.add(votes, minutes, price, against);
    }

    public int night(int n, int m, int what) {
        return now.offers.nightFact(n, m, what);
    }

    // ---- rows, images

    public int tell(int v) {
        if (waitingSize >= WAITING) {
            return FULL;
        }
        waiting[waitingSize] = v;
        waitingSize++;
        return waitingSize;
    }

    public int check(int what, int n, int m) {
        int many = waitingSize;
        waitingSize = 0;
        if (what == 0) {
            int rows = now.offers.nightRows(n, m, due);
            return rows < 0 ? rows : firstUnlike(many, rows);
        }
        if (what != 1 || !within(n, 1, TOLD_STEPS)) {
            return BAD;
        }
        return kept ? firstUnlike(many, image.tellNight(n, due)) : NO;
    }

    public int keep() {
        image.become(now);
        kept = true;
        return now.minute;
    }

    public int back() {
        if (!kept) {
            return NO;
        }
        now.become(image);
        return now.minute;
    }

    public int count(int what) {
        if (what == 14) {
            return waitingSize;
        }
        return what == 15 ? tape.size : now.countOf(what);
    }

    /** 0 if the numbers that waited are those that are due, else 1 and the place of the first that is not. */
    private int firstUnlike(int many, int dueSize) {
        int both = Math.min(many, dueSize);
        for (int i = 0; i < both && i < WAITING; i++) {
            if (waiting[i] != due[i]) {
                return 1 + i;
            }
        }
        return many == dueSize ? 0 : 1 + both;
    }

    private static boolean within(int v, int least, int most) {
        return v >= least && v <= most;
    }

    /** An office and a land, or two parties, come as one number: 10 times the one, and the other. */
    private static boolean isTwo(int a, int tens, int ones) {
        return a >= 0 && a / 10 < tens && a % 10 < ones;
    }

    private static int heldSum(int v) {
        return Math.max(0, Math.min(MOST_SUM, v));
    }

    private static void copyRow(int[] from, int[] to) {
        int n = Math.min(from.length, to.length);
        for (int i = 0; i < n; i++) {
            to[i] = from[i];
        }
    }

    /** All that an image keeps. */
    private static final class House {
        int minute;
        int clock;
        boolean stopped;
        final Members members = new Members();
        final Papers papers = new Papers();
        final Sheets sheets = new Sheets();
        final Texts texts = new Texts();
        final Wishes wishes = new Wishes();
        final Shifts shifts = new Shifts();
        final Offers offers = new Offers();
        int incomes;
        final int[] leasts = new int[INCOMES];
        final int[] mosts = new int[INCOMES];
        // What the latest poll found, and the row of changes: made anew by each call that uses them.
        int yes;
        int no;
        int present;
        final int[] rowPapers = new int[PAPERS];
        final int[] rowWorths = new int[PAPERS];
        final int[] rowSums = new int[PAPERS];

        void become(House other) {
            minute = other.minute;
            clock = other.clock;
            stopped = other.stopped;
            members.become(other.members);
            papers.become(other.papers);
            sheets.become(other.sheets);
            texts.become(other.texts);
            wishes.become(other.wishes);
            shifts.become(other.shifts);
            offers.become(other.offers);
            incomes = other.incomes;
            copyRow(other.leasts, leasts);
            copyRow(other.mosts, mosts);
        }

        int hourNow() {
            return clock / HOUR;
        }

        int setStopped(int on) {
            if (!within(on, 0, 1)) {
                return BAD;
            }
            int was = stopped ? 1 : 0;
            stopped = on == 1;
            return was;
        }

        int goOn(int n) {
            if (!within(n, 1, 240)) {
                return BAD;
            }
            if (minute + n > LAST_MINUTE) {
                return FULL;
            }
            int from = minute;
            minute += n;
            if (!stopped) {
                clock += n;
            }
            sheets.comeTill(minute, papers);
            members.leaveBetween(from, minute);
            return minute;
        }

        boolean hasRead(int member, int paper) {
            return (members.tonguesOf(member) & papers.cameOf(paper)) != 0;
        }

        /** 1 for yes, -1 for no, 0 for nothing, of a member who is present. */
        int voiceOf(int member, int paper) {
            int party = members.partyOf(member);
            if (papers.isBound(party, paper)) {
                return 1;
            }
            return hasRead(member, paper) ? Integer.compare(papers.stanceOf(party, paper), 0) : 0;
        }

        void poll(int paper) {
            yes = 0;
            no = 0;
            present = 0;
            for (int m = 0; m < members.size; m++) {
                if (members.isPresent(m, minute)) {
                    int voice = voiceOf(m, paper);
                    present++;
                    yes += voice > 0 ? 1 : 0;
                    no += voice < 0 ? 1 : 0;
                }
            }
        }

        void countVoters(int paper) {
            for (int m = 0; m < members.size; m++) {
                if (members.isPresent(m, minute) && voiceOf(m, paper) != 0) {
                    members.countVote(m);
                }
            }
        }

        boolean polledPasses(int kind) {
            int text = texts.counting(PASS, hourNow());
            if (text == NONE) {
                return yes > no;
            }
            return texts.worthOf(text, yes, no, present, kind) != 0;
        }

        boolean mayBePut(int kind) {
            int text = texts.counting(MAY, hourNow());
            return text == NONE || texts.worthOf(text, kind, hourNow(), clock % HOUR, 0) != 0;
        }

        int voteFact(int paper, int what) {
            if (!papers.has(paper) || !within(what, 0, 3)) {
                return BAD;
            }
            int kind = papers.kindOf(paper);
            if (!within(kind, LINE, RIDER)) {
                return KIND;
            }
            poll(paper);
            switch (what) {
                case 0:
                    return yes;
                case 1:
                    return no;
                case 2:
                    return present;
                default:
                    return polledPasses(kind) ? 1 : 0;
            }
        }

        int putToVote(int paper) {
            if (!papers.has(paper)) {
                return BAD;
            }
            int kind = papers.kindOf(paper);
            if (!within(kind, LINE, HUNG)) {
                return KIND;
            }
            if (!papers.isReady(paper) || !mayBePut(kind)) {
                return NO;
            }
            poll(paper);
            countVoters(paper);
            papers.setVote(paper, yes, no, present);
            boolean passed = polledPasses(kind);
            papers.decide(paper, passed);
            return passed ? 1 : 0;
        }

        int letRulingWork(int paper) {
            if (!papers.has(paper)) {
                return BAD;
            }
            return papers.kindOf(paper) == RULING ? papers.letRulingWork(paper) : KIND;
        }

        int worthInOrder(int text, int change) {
            if (text == NONE) {
                return 0;
            }
            int a = papers.aOf(papers.aOf(change));
            return texts.worthOf(text, papers.kindOf(change), papers.bOf(change), a / 10, a % 10);
        }

        /** Uses one row again and again, so that no call makes one; answers how many stand in it. */
        int layRow() {
            int text = texts.counting(ORDER, hourNow());
            int size = 0;
            for (int p = 0; p < papers.size && size < PAPERS; p++) {
                if (papers.isChange(p) && papers.stateOf(p) == OPEN) {
                    placeInRow(size, p, worthInOrder(text, p));
                    size++;
                }
            }
            return size;
        }

        /** Papers come by their numbers, so of like ones the one that is in the row already stays ahead. */
        void placeInRow(int size, int paper, int worth) {
            int at = size;
            while (at > 0 && at < PAPERS && rowWorths[at - 1] < worth) {
                rowWorths[at] = rowWorths[at - 1];
                rowPapers[at] = rowPapers[at - 1];
                at--;
            }
            if (at < PAPERS) {
                rowWorths[at] = worth;
                rowPapers[at] = paper;
            }
        }

        int inRow(int i) {
            if (i < 0) {
                return BAD;
            }
            return i < layRow() && i < PAPERS ? rowPapers[i] : NONE;
        }

        int bindWorth(int text, int tongue, int sum) {
            return text == NONE ? 0 : texts.worthOf(text, tongue, sum, 0, 0);
        }

        int bindingSum(int line) {
            int text = texts.counting(BIND, hourNow());
            int sum = papers.bOf(line);
            int best = bindWorth(text, 0, sum);
            for (int p = 0; p < papers.size; p++) {
                if (papers.isOpenOn(p, TONGUE, line)) {
                    int b = papers.bOf(p);
                    int worth = bindWorth(text, b / TONGUE_STEP, b % TONGUE_STEP);
                    if (worth > best) {
                        best = worth;
                        sum = b % TONGUE_STEP;
                    }
                }
            }
            return sum;
        }

        int lineFact(int paper, int what) {
            if (!papers.has(paper) || !within(what, 0, 3)) {
                return BAD;
            }
            if (!papers.isLine(paper)) {
                return KIND;
            }
            switch (what) {
                case 0:
                    return bindingSum(paper);
                case 1:
                    return papers.unlikeTongues(paper);
                case 2:
                    return papers.openChanges(paper);
                default:
                    return papers.ridersOn(paper);
            }
        }

        int addIncome(int least, int most) {
            if (!within(least, 0, MOST_SUM) || !within(most, least, MOST_SUM)) {
                return BAD;
            }
            if (incomes >= INCOMES) {
                return FULL;
            }
            leasts[incomes] = least;
            mosts[incomes] = most;
            incomes++;
            return incomes - 1;
        }

        int incomeAt(int[] ends) {
            int all = 0;
            for (int i = 0; i < incomes && i < ends.length; i++) {
                all += ends[i];
            }
            return all;
        }

        int balanceFact(int what) {
            if (!within(what, 0, 1 + OFFICES + LANDS)) {
                return BAD;
            }
            if (what == 0) {
                return incomeAt(leasts) - papers.sumOf(NONE, NONE);
            }
            if (what == 1) {
                return incomeAt(mosts) - papers.sumOf(NONE, NONE);
            }
            return what < 2 + OFFICES ? papers.sumOf(what - 2, NONE) : papers.sumOf(NONE, what - 2 - OFFICES);
        }

        int breakInRow() {
            int left = incomeAt(mosts) - papers.sumOf(NONE, NONE);
            copyRow(papers.bs, rowSums);
            int size = layRow();
            for (int i = 0; i < size && i < PAPERS; i++) {
                int change = rowPapers[i];
                int line = papers.aOf(change);
                if (line >= 0 && line < PAPERS) {
                    int sum = heldSum(rowSums[line] + papers.bOf(change));
                    left -= papers.costs(line) ? sum - rowSums[line] : 0;
                    rowSums[line] = sum;
                }
                if (left < 0) {
                    return change;
                }
            }
            return NONE;
        }

        /** As nobody does anything, no minute needs to go by. Answers how many numbers the rows have. */
        int tellNight(int steps, int[] rows) {
            int size = 0;
            for (int i = 1; i <= steps && size + 1 < rows.length; i++) {
                int then = minute + i * TOLD_MINUTES;
                rows[size] = members.stillIn(minute, then);
                rows[size + 1] = sheets.onWayBehind(then);
                size += 2;
            }
            return size;
        }

        int countOf(int what) {
            switch (what) {
                case 0:
                    return members.size;
                case 1:
                    return members.stillIn(minute, minute);
                case 2:
                    return members.pairsThatHold(minute);
                case 3:
                    return papers.size;
                case 4:
                case 5:
                case 6:
                case 7:
                case 8:
                    return papers.inState(what - 4);
                case 9:
                    return texts.size;
                case 10:
                    return sheets.size;
                case 11:
                    return incomes;
                case 12:
                    return shifts.size;
                case 13:
                    return offers.size;
                case 16:
                    return minute;
                case 17:
                    return clock;
                default:
                    return BAD;
            }
        }
    }

    /** Members, and who of them is in a pair. */
    private static final class Members {
        int size;
        final int[] parties = new int[MEMBERS];
        final int[] tongues = new int[MEMBERS];
        final int[] trains = new int[MEMBERS];
        final int[] votes = new int[MEMBERS];
        final int[] ins = new int[MEMBERS];
        int pairs;
        final int[] ones = new int[PAIRS];
        final int[] others = new int[PAIRS];
        final int[] tills = new int[PAIRS];

        void become(Members other) {
            size = other.size;
            copyRow(other.parties, parties);
            copyRow(other.tongues, tongues);
            copyRow(other.trains, trains);
            copyRow(other.votes, votes);
            copyRow(other.ins, ins);
            pairs = other.pairs;
            copyRow(other.ones, ones);
            copyRow(other.others, others);
            copyRow(other.tills, tills);
        }

        boolean has(int member) {
            return member >= 0 && member < size && member < MEMBERS;
        }

        int add(int party, int reads) {
            if (!within(party, 0, PARTIES - 1) || !within(reads, 0, (1 << TONGUES) - 1)) {
                return BAD;
            }
            if (size >= MEMBERS) {
                return FULL;
            }
            parties[size] = party;
            tongues[size] = reads;
            trains[size] = NONE;
            votes[size] = 0;
            ins[size] = 1;
            size++;
            return size - 1;
        }

        int factOf(int member, int what, int minute) {
            if (!has(member)) {
                return BAD;
            }
            switch (what) {
                case 0:
                    return parties[member];
                case 1:
                    return tongues[member];
                case 2:
                    return trains[member];
                case 3:
                    return ins[member];
                case 4:
                    return pairOf(member, minute);
                case 5:
                    return votes[member];
                default:
                    return BAD;
            }
        }

        int partyOf(int member) {
            return has(member) ? parties[member] : NONE;
        }

        int tonguesOf(int member) {
            return has(member) ? tongues[member] : 0;
        }

        boolean isIn(int member) {
            return has(member) && ins[member] == 1;
        }

        boolean isPresent(int member, int minute) {
            return isIn(member) && pairOf(member, minute) == NONE;
        }

        void countVote(int member) {
            if (has(member)) {
                votes[member]++;
            }
        }

        int setTrain(int member, int leaves, int minute) {
            if (!has(member) || leaves != NONE && !within(leaves, minute + 1, LAST_MINUTE)) {
                return BAD;
            }
            int was = trains[member];
            trains[member] = leaves;
            return was;
        }

        int setIn(int member, int on) {
            if (!has(member) || !within(on, 0, 1)) {
                return BAD;
            }
            int was = ins[member];
            ins[member] = on;
            return was;
        }

        boolean leaves(int member, int from, int till) {
            return has(member) && trains[member] > from && trains[member] <= till;
        }

        void leaveBetween(int from, int till) {
            for (int m = 0; m < size && m < MEMBERS; m++) {
                if (leaves(m, from, till)) {
                    ins[m] = 0;
                }
            }
        }

        /** From a minute till the same one, nobody leaves: then it tells who is in now. */
        int stillIn(int from, int till) {
            int n = 0;
            for (int m = 0; m < size; m++) {
                n += isIn(m) && !leaves(m, from, till) ? 1 : 0;
            }
            return n;
        }

        int inOfParty(int party) {
            int n = 0;
            for (int m = 0; m < size; m++) {
                n += isIn(m) && partyOf(m) == party ? 1 : 0;
            }
            return n;
        }

        boolean holds(int pair, int minute) {
            return pair >= 0 && pair < pairs && pair < PAIRS && minute < tills[pair];
        }

        int pairOf(int member, int minute) {
            for (int p = 0; p < pairs && p < PAIRS; p++) {
                if (holds(p, minute) && (ones[p] == member || others[p] == member)) {
                    return p;
                }
            }
            return NONE;
        }

        int addPair(int one, int other, int till, int minute) {
            if (!has(one) || !has(other) || one == other || !within(till, minute + 1, LAST_MINUTE)) {
                return BAD;
            }
            if (pairOf(one, minute) != NONE || pairOf(other, minute) != NONE) {
                return NO;
            }
            if (pairs >= PAIRS) {
                return FULL;
            }
            ones[pairs] = one;
            others[pairs] = other;
            tills[pairs] = till;
            pairs++;
            return pairs - 1;
        }

        int breakPair(int pair, int minute) {
            if (pair < 0 || pair >= pairs || pair >= PAIRS) {
                return BAD;
            }
            if (!holds(pair, minute)) {
                return NO;
            }
            tills[pair] = 0;
            return 1;
        }

        int pairsThatHold(int minute) {
            int n = 0;
            for (int p = 0; p < pairs; p++) {
                n += holds(p, minute) ? 1 : 0;
            }
            return n;
        }
    }

    /** Papers of all kinds, and how the parties stand to them. */
    private static final class Papers {
        int size;
        final int[] kinds = new int[PAPERS];
        final int[] as = new int[PAPERS];
        final int[] bs = new int[PAPERS];
        final int[] states = new int[PAPERS];
        final int[] ons = new int[PAPERS];
        final int[] modes = new int[PAPERS];
        final int[] cames = new int[PAPERS];
        final int[] yeses = new int[PAPERS];
        final int[] noes = new int[PAPERS];
        final int[] presents = new int[PAPERS];
        final int[] stances = new int[PARTIES * PAPERS];
        // States as they would be: made anew by each call that uses them.
        final int[] trial = new int[PAPERS];

        void become(Papers other) {
            size = other.size;
            copyRow(other.kinds, kinds);
            copyRow(other.as, as);
            copyRow(other.bs, bs);
            copyRow(other.states, states);
            copyRow(other.ons, ons);
            copyRow(other.modes, modes);
            copyRow(other.cames, cames);
            copyRow(other.yeses, yeses);
            copyRow(other.noes, noes);
            copyRow(other.presents, presents);
            copyRow(other.stances, stances);
        }

        boolean has(int paper) {
            return paper >= 0 && paper < size && paper < PAPERS;
        }

        int kindOf(int paper) {
            return has(paper) ? kinds[paper] : NONE;
        }

        int aOf(int paper) {
            return has(paper) ? as[paper] : 0;
        }

        int bOf(int paper) {
            return has(paper) ? bs[paper] : 0;
        }

        int stateOf(int paper) {
            return has(paper) ? states[paper] : NONE;
        }

        int cameOf(int paper) {
            return has(paper) ? cames[paper] : 0;
        }

        int stanceOf(int party, int paper) {
            return within(party, 0, PARTIES - 1) && has(paper) ? stances[party * PAPERS + paper] : 0;
        }

        boolean isLine(int paper) {
            return kindOf(paper) == LINE;
        }

        boolean isChange(int paper) {
            return has(paper) && within(kinds[paper], CHANGE, HUNG);
        }

        boolean isOpenOn(int paper, int kind, int line) {
            return kindOf(paper) == kind && stateOf(paper) == OPEN && aOf(paper) == line;
        }

        boolean isOpenChangeTo(int paper, int line) {
            return isChange(paper) && stateOf(paper) == OPEN && aOf(paper) == line;
        }

        boolean isRiderOn(int paper, int line) {
            return kindOf(paper) == RIDER && aOf(paper) == line;
        }

        /** A line that is lost or void costs nothing, though its sum stays and may still be told. */
        boolean costs(int paper) {
            return isLine(paper) && within(stateOf(paper), OPEN, PASSED);
        }

        boolean suits(int kind, int a, int b) {
            switch (kind) {
                case PAPER:
                    return a == 0 && b == 0;
                case LINE:
                    return isTwo(a, OFFICES, LANDS) && within(b, 0, MOST_SUM);
                case CHANGE:
                    return isLine(a) && within(b, -MOST_SUM, MOST_SUM);
                case RIDER:
                    return isLine(a) && within(b, 0, MOST_SUM);
                case TONGUE:
                    return isLine(a) && within(b, 0, TONGUES * TONGUE_STEP - 1);
                case DEAL:
                    return isTwo(a, PARTIES, PARTIES) && a / 10 != a % 10 && within(kindOf(b), LINE, RIDER);
                case RULING:
                    return isLine(a) && b == 0;
                default:
                    return false;
            }
        }

        int add(int kind, int a, int b) {
            if (!suits(kind, a, b)) {
                return BAD;
            }
            return addAny(kind, a, b, NONE, 0);
        }

        int addHung(int line, int more, int on, int mode) {
            if (!suits(CHANGE, line, more) || !isChange(on) || !within(mode, 0, 1)) {
                return BAD;
            }
            return addAny(HUNG, line, more, on, mode);
        }

        /** Sets all of the new paper, whatever its place held before an image came back. */
        int addAny(int kind, int a, int b, int on, int mode) {
            if (size >= PAPERS) {
                return FULL;
            }
            int paper = size;
            kinds[paper] = kind;
            as[paper] = a;
            bs[paper] = b;
            states[paper] = OPEN;
            ons[paper] = on;
            modes[paper] = mode;
            cames[paper] = 0;
            yeses[paper] = NONE;
            noes[paper] = NONE;
            presents[paper] = NONE;
            for (int party = 0; party < PARTIES; party++) {
                stances[party * PAPERS + paper] = 0;
            }
            size++;
            return paper;
        }

        int factOf(int paper, int what) {
            if (!has(paper)) {
                return BAD;
            }
            switch (what) {
                case 0:
                    return kinds[paper];
                case 1:
                    return as[paper];
                case 2:
                    return bs[paper];
                case 3:
                    return states[paper];
                case 4:
                    return ons[paper];
                case 5:
                    return modes[paper];
                case 6:
                    return cames[paper];
                case 7:
                    return yeses[paper];
                case 8:
                    return noes[paper];
                case 9:
                    return presents[paper];
                default:
                    return BAD;
            }
        }

        int seenAs(int paper, int kind) {
            if (!has(paper) || !within(kind, PAPER, RULING)) {
                return BAD;
            }
            return isUnder(kinds[paper], kind) ? bs[paper] : KIND;
        }

        /** All are papers; hung ones are changes, and changes are lines. */
        boolean isUnder(int kind, int upper) {
            return kind == upper || upper == PAPER || within(kind, LINE, HUNG) && within(upper, LINE, kind);
        }

        int setStance(int party, int paper, int v) {
            if (!within(party, 0, PARTIES - 1) || !has(paper) || !within(v, -9, 9)) {
                return BAD;
            }
            int at = party * PAPERS + paper;
            int was = stances[at];
            stances[at] = v;
            return was;
        }

        void comeIn(int paper, int tongue) {
            if (has(paper) && within(tongue, 0, TONGUES - 1)) {
                cames[paper] |= 1 << tongue;
            }
        }

        boolean isBound(int party, int paper) {
            for (int p = 0; p < size; p++) {
                if (kindOf(p) == DEAL && stateOf(p) == OPEN && aOf(p) / 10 == party && bOf(p) == paper) {
                    return true;
                }
            }
            return false;
        }

        /** The rule of may is asked by the house: papers know no hour. */
        boolean isReady(int paper) {
            if (stateOf(paper) != OPEN) {
                return false;
            }
            if (!isChange(paper)) {
                return true;
            }
            return stateOf(aOf(paper)) == OPEN && (!comesWith(paper) || stateOf(ons[paper]) == PASSED);
        }

        boolean comesWith(int paper) {
            return has(paper) && kinds[paper] == HUNG && modes[paper] == 1;
        }

        void setVote(int paper, int yes, int no, int present) {
            if (has(paper)) {
                yeses[paper] = yes;
                noes[paper] = no;
                presents[paper] = present;
            }
        }

        void decide(int paper, boolean passed) {
            if (!has(paper)) {
                return;
            }
            states[paper] = passed ? PASSED : LOST;
            if (isLine(paper)) {
                decideWith(paper, passed);
            } else if (passed) {
                addMore(aOf(paper), bs[paper]);
            }
            letFall(states);
            settleDeals();
        }

        /** Ahead of the hung ones that fall: some of them hang on a change that falls here. */
        void decideWith(int line, boolean passed) {
            for (int p = 0; p < size && p < PAPERS; p++) {
                if (isOpenOn(p, RIDER, line)) {
                    states[p] = passed ? PASSED : FALLEN;
                } else if (!passed && isOpenChangeTo(p, line)) {
                    states[p] = FALLEN;
                }
            }
        }

        void addMore(int line, int more) {
            if (has(line)) {
                bs[line] = heldSum(bs[line] + more);
            }
        }

        /**
         * Lets hung ones fall in a row of states; answers how many fell. Once through is enough: each hangs on a
         * paper of a lesser number, whose state stands by then.
         */
        int letFall(int[] row) {
            int fallen = 0;
            for (int p = 0; p < size && p < row.length; p++) {
                if (kindOf(p) == HUNG && row[p] == OPEN && fallsNow(p, row)) {
                    row[p] = FALLEN;
                    fallen++;
                }
            }
            return fallen;
        }

        boolean fallsNow(int paper, int[] row) {
            if (!has(paper)) {
                return false;
            }
            int on = ons[paper];
            if (on < 0 || on >= row.length) {
                return false;
            }
            return modes[paper] == 0 ? row[on] == PASSED : within(row[on], LOST, VOIDED);
        }

        void settleDeals() {
            for (int p = 0; p < size && p < PAPERS; p++) {
                if (kinds[p] == DEAL && states[p] == OPEN && stateOf(bs[p]) != OPEN) {
                    states[p] = stateOf(bs[p]) == PASSED ? PASSED : LOST;
                }
            }
        }

        int letRulingWork(int ruling) {
            int line = aOf(ruling);
            if (!has(ruling) || !has(line) || states[ruling] != OPEN || states[line] != PASSED) {
                return NO;
            }
            int voided = 1 + voidAllOn(line);
            states[line] = VOIDED;
            states[ruling] = PASSED;
            letFall(states);
            settleDeals();
            return voided;
        }

        /** The sum of the line stays: what it was ahead of its changes is not known any more. */
        int voidAllOn(int line) {
            int voided = 0;
            for (int p = 0; p < size && p < PAPERS; p++) {
                boolean change = isChange(p) && aOf(p) == line && states[p] == PASSED;
                if (change || isRiderOn(p, line) && states[p] != VOIDED) {
                    states[p] = VOIDED;
                    voided++;
                }
            }
            return voided;
        }

        int mendLine(int paper) {
            if (!has(paper)) {
                return BAD;
            }
            if (!isLine(paper)) {
                return KIND;
            }
            if (states[paper] != VOIDED) {
                return NO;
            }
            states[paper] = OPEN;
            return 1;
        }

        /** BAD, KIND or NO of what is asked of an open change; 0 if it is one. */
        int refusalOfChange(int paper) {
            if (!has(paper)) {
                return BAD;
            }
            if (!isChange(paper)) {
                return KIND;
            }
            return states[paper] == OPEN ? 0 : NO;
        }

        int fallingWith(int paper) {
            int refusal = refusalOfChange(paper);
            if (refusal != 0 || !has(paper)) {
                return refusal;
            }
            copyRow(states, trial);
            trial[paper] = PASSED;
            return letFall(trial);
        }

        int neverOf(int paper) {
            int refusal = refusalOfChange(paper);
            if (refusal != 0) {
                return refusal;
            }
            return isNever(paper) ? 1 : 0;
        }

        /** Goes down from a change to what it hangs on, which has a lesser number each time. */
        boolean isNever(int change) {
            int at = change;
            for (int i = 0; i < PAPERS; i++) {
                if (stateOf(at) != OPEN) {
                    return stateOf(at) != PASSED;
                }
                if (stateOf(aOf(at)) != OPEN) {
                    return true;
                }
                if (!has(at) || !comesWith(at)) {
                    return false;
                }
                at = ons[at];
            }
            return false;
        }

        int unlikeTongues(int line) {
            int n = 0;
            for (int p = 0; p < size; p++) {
                n += isOpenOn(p, TONGUE, line) && bOf(p) % TONGUE_STEP != bOf(line) ? 1 : 0;
            }
            return n;
        }

        int openChanges(int line) {
            int n = 0;
            for (int p = 0; p < size; p++) {
                n += isOpenChangeTo(p, line) ? 1 : 0;
            }
            return n;
        }

        int ridersOn(int line) {
            int n = 0;
            for (int p = 0; p < size; p++) {
                n += isRiderOn(p, line) ? 1 : 0;
            }
            return n;
        }

        /** The sums of lines that count in the balance, of an office (NONE: of all), of a land (NONE: of all). */
        int sumOf(int office, int land) {
            int all = 0;
            for (int p = 0; p < size; p++) {
                int a = aOf(p);
                if (costs(p) && (office == NONE || office == a / 10) && (land == NONE || land == a % 10)) {
                    all += bOf(p);
                }
            }
            return all;
        }

        int inState(int state) {
            int n = 0;
            for (int p = 0; p < size; p++) {
                n += stateOf(p) == state ? 1 : 0;
            }
            return n;
        }
    }

    /** Sheets that are on their way. */
    private static final class Sheets {
        int size;
        final int[] papersOf = new int[SHEETS];
        final int[] tonguesOf = new int[SHEETS];
        final int[] dues = new int[SHEETS];

        void become(Sheets other) {
            size = other.size;
            copyRow(other.papersOf, papersOf);
            copyRow(other.tonguesOf, tonguesOf);
            copyRow(other.dues, dues);
        }

        int add(Papers papers, int paper, int tongue, int later, int minute) {
            if (!papers.has(paper) || !within(tongue, 0, TONGUES - 1) || !within(later, 0, 99)) {
                return BAD;
            }
            if (size >= SHEETS) {
                return FULL;
            }
            if (later == 0) {
                papers.comeIn(paper, tongue);
                return size;
            }
            papersOf[size] = paper;
            tonguesOf[size] = tongue;
            dues[size] = minute + later;
            size++;
            return size;
        }

        void comeTill(int minute, Papers papers) {
            int left = 0;
            for (int i = 0; i < size && i < SHEETS; i++) {
                if (dues[i] <= minute) {
                    papers.comeIn(papersOf[i], tonguesOf[i]);
                } else {
                    papersOf[left] = papersOf[i];
                    tonguesOf[left] = tonguesOf[i];
                    dues[left] = dues[i];
                    left++;
                }
            }
            size = left;
        }

        /** A sheet that is due behind the last minute never comes, so it is on its way in any minute told. */
        int onWayBehind(int minute) {
            int n = 0;
            for (int i = 0; i < size && i < SHEETS; i++) {
                n += dues[i] > minute || dues[i] > LAST_MINUTE ? 1 : 0;
            }
            return n;
        }
    }

    /** Texts as the reader laid them down: what they work out stands behind what it is worked out of. */
    private static final class Texts {
        int size;
        final int[] keys = new int[TEXTS];
        final int[] hours = new int[TEXTS];
        final int[] operands = new int[TEXTS];
        final int[] lengths = new int[TEXTS];
        final int[] codes = new int[TEXTS * TAPE];
        // Made anew by each working out.
        final int[] names = new int[4];
        final int[] stack = new int[TAPE];
        int depth;

        void become(Texts other) {
            size = other.size;
            copyRow(other.keys, keys);
            copyRow(other.hours, hours);
            copyRow(other.operands, operands);
            copyRow(other.lengths, lengths);
            copyRow(other.codes, codes);
        }

        int add(Reader reader, int hour) {
            if (size >= TEXTS) {
                return FULL;
            }
            keys[size] = reader.key;
            hours[size] = hour;
            operands[size] = reader.operands;
            lengths[size] = reader.size;
            for (int i = 0; i < TAPE; i++) {
                codes[size * TAPE + i] = reader.code[i];
            }
            size++;
            return size - 1;
        }

        int factOf(int text, int what) {
            if (text < 0 || text >= size || text >= TEXTS) {
                return BAD;
            }
            switch (what) {
                case 0:
                    return keys[text];
                case 1:
                    return hours[text];
                case 2:
                    return operands[text];
                default:
                    return BAD;
            }
        }

        /** Texts come by their numbers, so of those of like hours the last one stays. */
        int counting(int key, int hour) {
            int best = NONE;
            int latest = -1;
            for (int t = 0; t < size && t < TEXTS; t++) {
                if (keys[t] == key && hours[t] <= hour && hours[t] >= latest) {
                    best = t;
                    latest = hours[t];
                }
            }
            return best;
        }

        int worthOf(int text, int first, int second, int third, int fourth) {
            if (text < 0 || text >= size || text >= TEXTS) {
                return 0;
            }
            names[0] = first;
            names[1] = second;
            names[2] = third;
            names[3] = fourth;
            depth = 0;
            for (int i = 0; i < lengths[text] && i < TAPE; i++) {
                workOut(codes[text * TAPE + i]);
            }
            return popped();
        }

        void workOut(int code) {
            if (code < Reader.NAME) {
                push(code);
            } else if (code < Reader.SIGN) {
                int name = code - Reader.NAME;
                push(name >= 0 && name < names.length ? names[name] : 0);
            } else if (code == Reader.SIGN + '!') {
                push(popped() == 0 ? 1 : 0);
            } else {
                int right = popped();
                push(worthOfSign(code - Reader.SIGN, popped(), right));
            }
        }

        void push(int v) {
            if (depth >= 0 && depth < TAPE) {
                stack[depth] = v;
                depth++;
            }
        }

        int popped() {
            if (depth <= 0 || depth > TAPE) {
                return 0;
            }
            depth--;
            return stack[depth];
        }

        int worthOfSign(int sign, int left, int right) {
            switch (sign) {
                case '|':
                    return left != 0 || right != 0 ? 1 : 0;
                case '&':
                    return left != 0 && right != 0 ? 1 : 0;
                case '<':
                    return left < right ? 1 : 0;
                case '=':
                    return left == right ? 1 : 0;
                case '>':
                    return left > right ? 1 : 0;
                case '+':
                    return left + right;
                case '-':
                    return left - right;
                case '*':
                    return left * right;
                default:
                    return right == 0 ? 0 : left / right;
            }
        }
    }

    /** The bytes that a text is read from. */
    private static final class Tape {
        int size;
        final int[] bytes = new int[TAPE];

        int take(int a, int b, int c) {
            if (size + 12 > TAPE) {
                return FULL;
            }
            takeFour(a);
            takeFour(b);
            takeFour(c);
            return size;
        }

        void takeFour(int v) {
            for (int shift = 24; shift >= 0 && size < TAPE; shift -= 8) {
                bytes[size] = v >> shift & 255;
                size++;
            }
        }

        int cutTo(int n) {
            if (!within(n, 0, size)) {
                return BAD;
            }
            size = n;
            return n;
        }

        void useUp() {
            size = 0;
        }

        /** The byte at a place, NONE at the end. */
        int byteAt(int place) {
            return place >= 0 && place < size && place < TAPE ? bytes[place] : NONE;
        }

        boolean isDigit(int place) {
            return within(byteAt(place), '0', '9');
        }

        boolean isLetter(int place) {
            return within(byteAt(place), 'a', 'z');
        }

        int behindBlanks(int place) {
            int at = place;
            while (at < size && byteAt(at) == ' ') {
                at++;
            }
            return at;
        }

        /** The place behind the word that begins at a place; that place itself, if none does. */
        int behindWord(int place) {
            int at = place;
            if (isDigit(at)) {
                while (at < size && isDigit(at)) {
                    at++;
                }
                return at;
            }
            while (at < size && isLetter(at)) {
                at++;
            }
            return at;
        }

        boolean isWord(int place, int end, String word) {
            if (end - place != word.length()) {
                return false;
            }
            for (int i = 0; i < word.length(); i++) {
                if (byteAt(place + i) != word.charAt(i)) {
                    return false;
                }
            }
            return true;
        }
    }

    /**
     * Reads a text and lays down its numbers, names and signs, each sign behind what it joins. Signs that are read
     * wait until what stands on their right side is laid down.
     */
    private static final class Reader {
        static final int NAME = 10000;
        static final int SIGN = 20000;
        static final int DEEPEST = 8;
        static final int REFUSED = -1;

        int key;
        int operands;
        int size;
        final int[] code = new int[TAPE];
        final int[] waits = new int[TAPE];
        int waitsSize;
        int brackets;
        int nots;
        boolean wantsPart;

        /** The place of the tape's fault, NONE if it holds a text. */
        int faultOf(Tape tape) {
            startAnew();
            int start = tape.behindBlanks(0);
            int end = tape.behindWord(start);
            key = keyOf(tape, start, end);
            if (key == NONE) {
                return start;
            }
            // A word right behind another one: only here could it stand at all.
            if (tape.isDigit(end)) {
                return end;
            }
            int place = tape.behindBlanks(end);
            // Each turn goes on by a byte at least.
            for (int i = 0; i < TAPE && place < tape.size; i++) {
                int next = wantsPart ? takePart(tape, place) : takeSign(tape, place);
                if (next == REFUSED) {
                    return place;
                }
                place = tape.behindBlanks(next);
            }
            if (wantsPart || brackets > 0) {
                return tape.size;
            }
            layDownFrom(1);
            return NONE;
        }

        void startAnew() {
            operands = 0;
            size = 0;
            waitsSize = 0;
            brackets = 0;
            nots = 0;
            wantsPart = true;
        }

        int keyOf(Tape tape, int start, int end) {
            if (tape.isWord(start, end, "pass")) {
                return PASS;
            }
            if (tape.isWord(start, end, "may")) {
                return MAY;
            }
            if (tape.isWord(start, end, "order")) {
                return ORDER;
            }
            return tape.isWord(start, end, "bind") ? BIND : NONE;
        }

        String namesOf(int ofKey) {
            switch (ofKey) {
                case PASS:
                    return "ynpk";
                case MAY:
                    return "khc";
                case ORDER:
                    return "kvol";
                default:
                    return "ts";
            }
        }

        /** Takes a number, a name, ! or (; answers the place behind it, or REFUSED. */
        int takePart(Tape tape, int place) {
            int sign = tape.byteAt(place);
            if (sign == '!') {
                nots++;
                waitWith(sign);
                return nots > DEEPEST ? REFUSED : place + 1;
            }
            if (sign == '(') {
                brackets++;
                waitWith(sign);
                return brackets > DEEPEST ? REFUSED : place + 1;
            }
            int end = tape.behindWord(place);
            int operand = tape.isDigit(place) ? numberAt(tape, place, end) : nameAt(tape, place, end);
            if (operand == REFUSED) {
                return REFUSED;
            }
            layDown(operand);
            operands++;
            endPart();
            return end;
        }

        int numberAt(Tape tape, int place, int end) {
            if (end - place > 4) {
                return REFUSED;
            }
            int v = 0;
            for (int at = place; at < end; at++) {
                v = v * 10 + tape.byteAt(at) - '0';
            }
            return v;
        }

        int nameAt(Tape tape, int place, int end) {
            if (end - place != 1) {
                return REFUSED;
            }
            String names = namesOf(key);
            for (int i = 0; i < names.length(); i++) {
                if (tape.byteAt(place) == names.charAt(i)) {
                    return NAME + i;
                }
            }
            return REFUSED;
        }

        /** Takes a sign that joins, or ); answers the place behind it, or REFUSED. */
        int takeSign(Tape tape, int place) {
            int sign = tape.byteAt(place);
            if (sign == ')') {
                return closeBracket() ? place + 1 : REFUSED;
            }
            int rank = rankOf(sign);
            if (rank == 0) {
                return REFUSED;
            }
            // Tests don't follow one another: a test that waits already lets no second one stand.
            layDownFrom(rank == 3 ? rank + 1 : rank);
            if (rank == 3 && rankOf(lastWaiting()) == 3) {
                return REFUSED;
            }
            waitWith(sign);
            wantsPart = true;
            return place + 1;
        }

        /** How tight a sign joins; 0 if it joins nothing. */
        int rankOf(int sign) {
            switch (sign) {
                case '|':
                    return 1;
                case '&':
                    return 2;
                case '<':
                case '=':
                case '>':
                    return 3;
                case '+':
                case '-':
                    return 4;
                case '*':
                case '/':
                    return 5;
                default:
                    return 0;
            }
        }

        boolean closeBracket() {
            if (brackets == 0) {
                return false;
            }
            layDownFrom(1);
            if (lastWaiting() == '(') {
                waitsSize--;
            }
            brackets--;
            endPart();
            return true;
        }

        /** The ! right ahead of a part bind nothing but it: they are open no more as it is whole. */
        void endPart() {
            for (; waitsSize > 0 && lastWaiting() == '!'; waitsSize--) {
                layDown(SIGN + '!');
                nots--;
            }
            wantsPart = false;
        }

        /** Lays down the signs that wait, back to one that joins less tight than a rank, or to a bracket. */
        void layDownFrom(int rank) {
            for (; waitsSize > 0 && rankOf(lastWaiting()) >= rank; waitsSize--) {
                layDown(SIGN + lastWaiting());
            }
        }

        void layDown(int what) {
            if (size >= 0 && size < TAPE) {
                code[size] = what;
                size++;
            }
        }

        void waitWith(int sign) {
            if (waitsSize >= 0 && waitsSize < TAPE) {
                waits[waitsSize] = sign;
                waitsSize++;
            }
        }

        int lastWaiting() {
            return waitsSize > 0 && waitsSize <= TAPE ? waits[waitsSize - 1] : NONE;
        }
    }

    /** Books of the offices. A year that is NONE has no number: rows of ints never hold it. */
    private static final class Books {
        static final int MISSING = -1, INTS = 0, FLOATS = 1, MOST_HALVES = 100000;

        final int[] sorts = {MISSING, MISSING, MISSING, MISSING, MISSING, MISSING, MISSING, MISSING};
        final int[] sizes = new int[OFFICES];
        final int[] years = new int[OFFICES * YEARS];
        final int[] carried = new int[YEARS];

        int open(int office, int sort, int n) {
            if (!isOffice(office) || !within(sort, MISSING, FLOATS) || sort != MISSING && n > YEARS) {
                return BAD;
            }
            if (sort != MISSING && n < 0) {
                return SIZE;
            }
            sorts[office] = sort;
            sizes[office] = sort == MISSING ? 0 : n;
            for (int y = 0; y < YEARS; y++) {
                years[office * YEARS + y] = 0;
            }
            return sizes[office];
        }

        boolean isOffice(int office) {
            return within(office, 0, OFFICES - 1);
        }

        boolean hasYear(int office, int year) {
            return isOffice(office) && year >= 0 && year < sizes[office] && year < YEARS;
        }

        /** BAD, NOTHING or INDEX of a year of a book; 0 if there is such a year. */
        int refusalOfYear(int office, int year) {
            if (!isOffice(office)) {
                return BAD;
            }
            if (sorts[office] == MISSING) {
                return NOTHING;
            }
            return hasYear(office, year) ? 0 : INDEX;
        }

        int write(int office, int year, int v) {
            int refusal = refusalOfYear(office, year);
            if (refusal != 0 || !hasYear(office, year)) {
                return refusal;
            }
            if (sorts[office] == INTS && v == NONE) {
                return KIND;
            }
            if (sorts[office] == FLOATS && v != NONE && !within(v, -MOST_HALVES, MOST_HALVES)) {
                return BAD;
            }
            years[office * YEARS + year] = v;
            return 1;
        }

        /** The year that holds the number a year is read by; NONE if there is none. */
        int yearRead(int office, int year) {
            if (!hasYear(office, year)) {
                return NONE;
            }
            int at = year;
            while (at >= 0 && years[office * YEARS + at] == NONE) {
                at--;
            }
            return at >= 0 ? at : NONE;
        }

        int readAt(int office, int year) {
            int refusal = refusalOfYear(office, year);
            if (refusal != 0) {
                return refusal;
            }
            int at = yearRead(office, year);
            return hasYear(office, at) ? years[office * YEARS + at] : KIND;
        }

        boolean reaches(int office, int year, int many) {
            return isOffice(office) && year >= 0 && many >= 0 && year <= sizes[office] && many <= sizes[office] - year;
        }

        int carryOver(int from, int year, int to, int at, int many) {
            if (!isOffice(from) || !isOffice(to)) {
                return BAD;
            }
            if (sorts[from] == MISSING || sorts[to] == MISSING) {
                return NOTHING;
            }
            if (sorts[from] != sorts[to]) {
                return KIND;
            }
            if (!reaches(from, year, many) || !reaches(to, at, many)) {
                return INDEX;
            }
            // By way of a row of its own: within one book, the years may lie over one another.
            for (int i = 0; i < many && i < YEARS; i++) {
                carried[i] = years[from * YEARS + year + i];
            }
            for (int i = 0; i < many && i < YEARS; i++) {
                years[to * YEARS + at + i] = carried[i];
            }
            return many;
        }

        int spanOf(int year, int what) {
            if (year < 0 || !within(what, 0, 2)) {
                return BAD;
            }
            int known = 0;
            int least = 0;
            int greatest = 0;
            for (int office = 0; office < OFFICES; office++) {
                int at = yearRead(office, year);
                if (hasYear(office, at)) {
                    int v = years[office * YEARS + at];
                    least = known == 0 ? v : Math.min(least, v);
                    greatest = known == 0 ? v : Math.max(greatest, v);
                    known++;
                }
            }
            if (what == 0) {
                return OFFICES - known;
            }
            if (known == 0) {
                return NONE;
            }
            return what == 1 ? least : greatest;
        }
    }

    /** What the parties wish, and the lines that carry by it. */
    private static final class Wishes {
        final int[] sets = new int[PARTIES];
        // Made anew by each search.
        final int[] sums = new int[WISHED];
        final int[] voices = new int[PARTIES];
        int lines;
        int bestSet;
        int bestSum;
        int bestVoices;

        void become(Wishes other) {
            copyRow(other.sets, sets);
        }

        int setWish(int party, int set) {
            if (!within(party, 0, PARTIES - 1) || !within(set, 0, (1 << WISHED) - 1)) {
                return BAD;
            }
            int was = sets[party];
            sets[party] = set;
            return was;
        }

        int leastThatCarries(Papers papers, Members members, int n, int what) {
            if (!within(n, 1, MEMBERS) || !within(what, 0, 2)) {
                return BAD;
            }
            takeLines(papers);
            for (int party = 0; party < PARTIES; party++) {
                voices[party] = members.inOfParty(party);
            }
            searchSets(n);
            if (bestSet == NONE) {
                return NONE;
            }
            if (what == 0) {
                return bestSet;
            }
            return what == 1 ? bestSum : bestVoices;
        }

        void takeLines(Papers papers) {
            lines = 0;
            for (int p = 0; p < papers.size && lines < WISHED; p++) {
                if (papers.isLine(p)) {
                    sums[lines] = papers.bOf(p);
                    lines++;
                }
            }
        }

        /** Sets come by their bits, so of like ones the one that is found already stays. */
        void searchSets(int n) {
            bestSet = NONE;
            for (int set = 0; set < 1 << lines; set++) {
                int sum = sumOf(set);
                int all = voicesFor(set);
                if (all >= n && (bestSet == NONE || isLess(set, sum))) {
                    bestSet = set;
                    bestSum = sum;
                    bestVoices = all;
                }
            }
        }

        boolean isLess(int set, int sum) {
            if (sum != bestSum) {
                return sum < bestSum;
            }
            return Integer.bitCount(set) < Integer.bitCount(bestSet);
        }

        int sumOf(int set) {
            int all = 0;
            for (int i = 0; i < lines && i < WISHED; i++) {
                all += (set >> i & 1) == 1 ? sums[i] : 0;
            }
            return all;
        }

        int voicesFor(int set) {
            int there = (1 << lines) - 1;
            int all = 0;
            for (int party = 0; party < PARTIES; party++) {
                int wished = sets[party] & there;
                all += wished != 0 && (wished & ~set) == 0 ? voices[party] : 0;
            }
            return all;
        }
    }

    /** Interpreters, the speeches of the night, and the shift that hears most of them. */
    private static final class Shifts {
        static final int NOBODY = INTERPRETERS, CHOICES = INTERPRETERS + 1;

        int size;
        final int[] twos = new int[INTERPRETERS];
        final int[] speeches = new int[SPEECHES];
        // Most heard from an hour on, by who had the hour ahead of it, and whether that one had the one before, too.
        final int[] most = new int[(SPEECHES + 1) * CHOICES * 2];

        void become(Shifts other) {
            size = other.size;
            copyRow(other.twos, twos);
            copyRow(other.speeches, speeches);
        }

        int add() {
            if (size >= INTERPRETERS) {
                return FULL;
            }
            twos[size] = 0;
            size++;
            return size - 1;
        }

        boolean isTongue(int tongue) {
            return within(tongue, 0, TONGUES - 1);
        }

        /** Who speaks from one to the other speaks back, so both ways have one bit. */
        int bitOf(int one, int other) {
            int high = Math.max(one, other);
            return 1 << high * (high - 1) / 2 + Math.min(one, other);
        }

        int addTwo(int interpreter, int one, int other) {
            if (!within(interpreter, 0, size - 1) || !isTongue(one) || !isTongue(other) || one == other) {
                return BAD;
            }
            twos[interpreter] |= bitOf(one, other);
            return Integer.bitCount(twos[interpreter]);
        }

        int setSpeech(int hour, int one, int other) {
            if (!within(hour, 0, SPEECHES - 1)) {
                return BAD;
            }
            if (one == NONE || other == NONE) {
                speeches[hour] = 0;
                return 1;
            }
            if (!isTongue(one) || !isTongue(other) || one == other) {
                return BAD;
            }
            speeches[hour] = bitOf(one, other);
            return 1;
        }

        int mostHeard(int n) {
            if (!within(n, 1, SPEECHES)) {
                return BAD;
            }
            weigh(n);
            return mostFrom(0, NOBODY, false);
        }

        int interpreterIn(int n, int hour) {
            if (!within(n, 1, SPEECHES) || !within(hour, 0, n - 1)) {
                return BAD;
            }
            weigh(n);
            int last = NOBODY;
            boolean twice = false;
            for (int h = 0; h <= hour && h < SPEECHES; h++) {
                int chosen = firstBest(h, last, twice);
                twice = chosen == last && chosen != NOBODY;
                last = chosen;
            }
            return last == NOBODY ? NONE : last;
        }

        void weigh(int n) {
            for (int i = 0; i < most.length; i++) {
                most[i] = 0;
            }
            for (int h = Math.min(n, SPEECHES) - 1; h >= 0; h--) {
                for (int last = 0; last < CHOICES; last++) {
                    most[place(h, last, false)] = bestFrom(h, last, false);
                    most[place(h, last, true)] = bestFrom(h, last, true);
                }
            }
        }

        /** There is a place for every hour from 0 to 8 and every choice; the last line keeps to the row. */
        int place(int hour, int last, boolean twice) {
            int at = (hour * CHOICES + last) * 2 + (twice ? 1 : 0);
            return at >= 0 && at < most.length ? at : 0;
        }

        int mostFrom(int hour, int last, boolean twice) {
            return most[place(hour, last, twice)];
        }

        int bestFrom(int hour, int last, boolean twice) {
            int best = 0;
            for (int chosen = 0; chosen < CHOICES; chosen++) {
                if (canTake(chosen, last, twice)) {
                    best = Math.max(best, heardWith(hour, chosen, last));
                }
            }
            return best;
        }

        /** Nobody comes behind all interpreters, so only if none of them leaves as much to be heard. */
        int firstBest(int hour, int last, boolean twice) {
            for (int chosen = 0; chosen < NOBODY; chosen++) {
                if (canTake(chosen, last, twice) && heardWith(hour, chosen, last) == mostFrom(hour, last, twice)) {
                    return chosen;
                }
            }
            return NOBODY;
        }

        boolean canTake(int chosen, int last, boolean twice) {
            return chosen == NOBODY || chosen < size && !(chosen == last && twice);
        }

        int heardWith(int hour, int chosen, int last) {
            boolean twice = chosen == last && chosen != NOBODY;
            return heardIn(hour, chosen) + mostFrom(hour + 1, chosen, twice);
        }

        int heardIn(int hour, int chosen) {
            if (!within(hour, 0, SPEECHES - 1) || !within(chosen, 0, INTERPRETERS - 1)) {
                return 0;
            }
            return (speeches[hour] & twos[chosen]) != 0 ? 1 : 0;
        }
    }

    /** Offers, and the night that is dearest to nobody. */
    private static final class Offers {
        int size;
        final int[] votes = new int[OFFERS];
        final int[] minutes = new int[OFFERS];
        final int[] prices = new int[OFFERS];
        final int[] againsts = new int[OFFERS];
        // Made anew by each search.
        int bestSet;
        int bestPrice;
        int bestMinutes;

        void become(Offers other) {
            size = other.size;
            copyRow(other.votes, votes);
            copyRow(other.minutes, minutes);
            copyRow(other.prices, prices);
            copyRow(other.againsts, againsts);
        }

        int add(int vote, int minute, int price, int against) {
            if (!within(vote, 1, 9) || !within(minute, 1, 99) || !within(price, 0, 999)
                || !within(against, 0, (1 << OFFERS) - 1)) {
                return BAD;
            }
            if (size >= OFFERS) {
                return FULL;
            }
            votes[size] = vote;
            minutes[size] = minute;
            prices[size] = price;
            againsts[size] = against;
            size++;
            return size - 1;
        }

        int sumOf(int[] row, int set) {
            int all = 0;
            for (int i = 0; i < size && i < row.length; i++) {
                all += (set >> i & 1) == 1 ? row[i] : 0;
            }
            return all;
        }

        boolean agrees(int set) {
            for (int i = 0; i < size && i < OFFERS; i++) {
                if ((set >> i & 1) == 1 && (againsts[i] & set & ~(1 << i)) != 0) {
                    return false;
                }
            }
            return true;
        }

        /** Sets come by their bits, so of like ones the one that is found already stays. BAD, NONE, or 0. */
        int searchNight(int n, int m) {
            if (!within(n, 1, 99) || !within(m, 1, 999)) {
                return BAD;
            }
            bestSet = NONE;
            for (int set = 1; set < 1 << size; set++) {
                int time = sumOf(minutes, set);
                if (time <= m && sumOf(votes, set) >= n && agrees(set)) {
                    takeIfLess(set, sumOf(prices, set), time);
                }
            }
            return bestSet == NONE ? NONE : 0;
        }

        void takeIfLess(int set, int price, int time) {
            boolean less = price == bestPrice ? time < bestMinutes : price < bestPrice;
            if (bestSet == NONE || less) {
                bestSet = set;
                bestPrice = price;
                bestMinutes = time;
            }
        }

        int nightFact(int n, int m, int what) {
            if (!within(what, 0, 2)) {
                return BAD;
            }
            int refusal = searchNight(n, m);
            if (refusal != 0) {
                return refusal;
            }
            if (what == 0) {
                return bestSet;
            }
            return what == 1 ? bestPrice : bestMinutes;
        }

        /** By numbers, as prices are told of all up to an offer. Answers how many numbers, or why there are none. */
        int nightRows(int n, int m, int[] rows) {
            int refusal = searchNight(n, m);
            if (refusal != 0) {
                return refusal;
            }
            int at = 0;
            int price = 0;
            for (int i = 0; i < size && i < OFFERS && at + 1 < rows.length; i++) {
                if ((bestSet >> i & 1) == 1) {
                    price += prices[i];
                    rows[at] = i;
                    rows[at + 1] = price;
                    at += 2;
                }
            }
            return at;
        }
    }
}
