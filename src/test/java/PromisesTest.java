import java.io.IOException;

/** "Promise 1" to "Promise 51" of the document, sentence by sentence, from the first to the last. */
public final class PromisesTest {
    private static final Due DUE = new Due("PromisesTest");
    private static final Document DOC = new Document(DUE);

    public static void main(String[] args) throws IOException {
        newObject();
        members();
        minutes();
        papers();
        papersRead();
        votes();
        rulings();
        rows();
        texts();
        balances();
        books();
        wishes();
        shifts();
        nights();
        waiting();
        images();
        counts();
        DOC.wholePart("## Promise 1:", "## Not promised");
        DUE.end();
    }

    private static void newObject() {
        DOC.begin();
        DOC.says("As told; no MEMBERS, no PAPERS.", Document.many(0, 17, "count(#) = 0"), "count(18) = BAD",
            "member(0, 0) = 0", "is(0, 2) = NONE", "is(0, 3) = 1", "clock(0) = 0", "why(0) = NONE",
            "looks(0, 0) = NOTHING", "looks(7, 0) = NOTHING", "wish(8, 0) = 0", "back() = NO", "check(1, 1, 0) = NO",
            "balance(0) = 0", "row(0) = NONE", "first() = NONE", "heard(8) = 0", "shift(8, 0) = NONE",
            "night(1, 1, 0) = NONE", "carry(1, 0) = NONE");
    }

    private static void members() {
        DOC.begin();
        DOC.says("One more MEMBER: the number.", Document.many(0, 17, "member(2, 3) = #"), "count(0) = 18",
            "is(17, 0) = 2", "is(17, 1) = 3");
        DOC.says("BAD; FULL.", "member(9, 1) = BAD", "member(-1, 1) = BAD", "member(1, 128) = BAD",
            "member(1, -1) = BAD", "member(0, 0) = 18", "member(8, 127) = 19", "member(0, 0) = FULL",
            "member(9, 0) = BAD", "count(0) = 20");
        DOC.begin("member(5, 6) = 0", "member(5, 1) = 1", "member(3, 1) = 2", "paper(1, 0, 5) = 0",
            "paper(1, 0, 5) = 1", "print(0, 0, 0) = 0", "print(1, 0, 0) = 0", "stance(5, 0, 1) = 0",
            "stance(3, 0, -1) = 0");
        DOC.says("Of a MEMBER: what 0 PARTY, 1 TONGUES, 2 TRAIN (that has left, too; NONE), 3 whether IN (1, 0), 4 "
            + "the PAIR that holds (NONE), 5 how often voted yes or no, as a PAPER was PUT.", "is(0, 0) = 5",
            "is(0, 1) = 6", "is(0, 2) = NONE", "train(0, 3) = NONE", "run(4) = 4", "is(0, 2) = 3", "is(0, 3) = 0",
            "go(0, 1) = 0", "is(0, 3) = 1", "is(0, 4) = NONE", "put(0) = 0", "would(1, 0) = 0", "put(1) = 0",
            "is(0, 5) = 0", "is(1, 5) = 1", "is(2, 5) = 1", "pair(0, 1, 9) = 0", "is(0, 4) = 0", "is(1, 4) = 0",
            "is(2, 4) = NONE", "train(0, NONE) = 3", "is(0, 2) = NONE");
        DOC.says("BAD.", "is(3, 0) = BAD", "is(-1, 0) = BAD", "is(0, 6) = BAD", "is(0, -1) = BAD");
        DOC.says("TRAIN of a MEMBER becomes a MINUTE (later than the one that is open, 9999 at most; NONE): what "
            + "it was (NONE).", "train(1, 9999) = NONE", "train(1, 5) = 9999", "train(1, NONE) = 5",
            "train(1, NONE) = NONE", "train(1, 5) = NONE");
        DOC.says("BAD.", "train(1, 4) = BAD", "train(1, 0) = BAD", "train(1, 10000) = BAD", "train(1, -1) = BAD",
            "train(3, 9) = BAD", "train(3, NONE) = BAD", "train(1, NO) = BAD", "is(1, 2) = 5");
        DOC.says("A MEMBER is IN (on 1), AWAY (0): what it was.", "go(2, 1) = 1", "go(2, 0) = 1", "go(2, 0) = 0",
            "is(2, 3) = 0", "go(2, 1) = 0", "is(2, 3) = 1");
        DOC.says("BAD.", "go(2, 2) = BAD", "go(2, -1) = BAD", "go(3, 1) = BAD", "go(-1, 1) = BAD", "is(2, 3) = 1");
    }

    private static void minutes() {
        DOC.begin(Document.many(0, 4, "member(0, 1) = #"), "run(2) = 2");
        DOC.says("A PAIR till a MINUTE (later than the one that is open, 9999 at most): its number.",
            "pair(0, 1, 3) = 0", "pair(2, 3, 9999) = 1", "count(2) = 2", "run(1) = 3", "count(2) = 1", "is(2, 4) = 1",
            "pair(1, 0, 4) = 2");
        DOC.says("BAD: also if they are one; NO: one is in a PAIR that holds; FULL.", "pair(4, 4, 9) = BAD",
            "pair(4, 5, 9) = BAD", "pair(5, 4, 9) = BAD", "pair(-1, 4, 9) = BAD", "pair(4, 0, 3) = BAD",
            "pair(4, 0, 10000) = BAD", "pair(4, 0, NONE) = BAD", "pair(4, 0, 9) = NO", "pair(3, 4, 9) = NO",
            "breaks(2) = 1", "pair(0, 1, 4) = 3", "breaks(3) = 1", "pair(0, 1, 4) = 4", "breaks(4) = 1",
            "pair(0, 1, 4) = 5", "breaks(5) = 1", "pair(0, 1, 4) = 6", "breaks(6) = 1", "pair(0, 1, 4) = 7",
            "breaks(7) = 1", "pair(0, 1, 4) = 8", "breaks(8) = 1", "pair(0, 1, 4) = 9", "breaks(9) = 1",
            "pair(0, 1, 4) = FULL", "pair(0, 2, 4) = NO", "pair(0, 0, 4) = BAD");
        DOC.says("A PAIR is broken: it holds no more: 1.", "is(2, 4) = 1", "breaks(1) = 1", "is(2, 4) = NONE",
            "is(3, 4) = NONE", "count(2) = 0");
        DOC.says("BAD; NO: it does not hold.", "breaks(10) = BAD", "breaks(-1) = BAD", "breaks(1) = NO",
            "breaks(0) = NO");
        DOC.begin("member(0, 1) = 0", "member(0, 1) = 1", "pair(0, 1, 3) = 0", "run(2) = 2");
        DOC.ask("breaks(1) = BAD", "run(1) = 3", "breaks(0) = NO");
        DOC.says("THE CLOCK is STOPPED (on 1), or goes on (0): what it was.", "clock(1) = 0", "clock(1) = 1",
            "run(5) = 8", "count(17) = 3", "clock(0) = 1", "clock(0) = 0", "run(5) = 13", "count(17) = 8");
        DOC.says("BAD.", "clock(2) = BAD", "clock(-1) = BAD", "clock(0) = 0");
        DOC.begin("member(0, 1) = 0", "member(0, 1) = 1", "paper(0, 0, 0) = 0", "print(0, 0, 3) = 1",
            "print(0, 1, 4) = 2", "train(0, 3) = NONE", "train(1, 4) = NONE", "clock(1) = 0");
        DOC.says("n (1 .. 240) MINUTES go by: in each, MINUTE becomes the next one, THE CLOCK if it is not STOPPED, "
            + "SHEETS that are due come, MEMBERS whose TRAIN it is are AWAY: the MINUTE.", "run(1) = 1", "run(1) = 2",
            "is(0, 3) = 1", "told(0, 6) = 0", "run(1) = 3", "is(0, 3) = 0", "told(0, 6) = 1", "is(1, 3) = 1",
            "count(17) = 0", "clock(0) = 1", "run(240) = 243", "is(1, 3) = 0", "told(0, 6) = 3", "count(17) = 240");
        DOC.says("BAD; FULL: it would be above 9999.", "run(0) = BAD", "run(-1) = BAD", "run(241) = BAD");
        DOC.begin((Object) Houses.minutes(9990));
        DOC.ask("run(10) = FULL", "run(241) = BAD", "count(16) = 9990", "run(9) = 9999", "run(1) = FULL",
            "run(0) = BAD", "count(16) = 9999");
    }

    private static void papers() {
        DOC.begin();
        DOC.says("One more PAPER of KIND 0, 1, 2, 4 .. 7: its number.", "paper(0, 0, 0) = 0", "paper(1, 12, 9) = 1",
            "paper(2, 1, -3) = 2", "paper(4, 1, 4) = 3", "paper(5, 1, 30004) = 4", "paper(6, 45, 2) = 5",
            "paper(7, 1, 0) = 6", "count(3) = 7", "count(4) = 7");
        DOC.says("BAD; FULL.", "paper(3, 1, 0) = BAD", "paper(8, 0, 0) = BAD", "paper(-1, 0, 0) = BAD",
            "paper(2, 2, 0) = BAD", "paper(1, 12, 10000) = BAD", Document.many(7, 38, "paper(1, 0, 1) = #"),
            "hung(1, 2, 2, 1) = 39", "paper(1, 0, 1) = FULL", "paper(1, 4, 1) = BAD", "count(3) = 40");
        DOC.says("A HUNG one: its number.", "told(39, 0) = 3", "told(39, 1) = 1", "told(39, 2) = 2", "told(39, 4) = 2",
            "told(39, 5) = 1");
        DOC.says("BAD: line, more, on, mode; FULL.", "hung(0, 2, 2, 1) = BAD", "hung(2, 2, 2, 1) = BAD",
            "hung(1, 10000, 2, 1) = BAD", "hung(1, 2, 1, 1) = BAD", "hung(1, 2, 40, 1) = BAD", "hung(1, 2, 2, 2) = BAD",
            "hung(1, 2, 2, -1) = BAD", "hung(1, 2, 2, 0) = FULL", "hung(1, 2, 39, 0) = FULL");
        DOC.begin("member(0, 1) = 0", "member(1, 1) = 1", "member(2, 0) = 2", "paper(1, 52, 9) = 0",
            "paper(2, 0, -8) = 1", "hung(0, 7, 1, 1) = 2");
        DOC.says("Of a PAPER: what 0 KIND, 1 a, 2 b, 3 state, 4 ON (NONE: of others), 5 MODE (0), 6 CAME, 7 Y, 8 "
            + "N, 9 P of the latest VOTE on it (NONE: none).", "told(1, 0) = 2", "told(0, 1) = 52", "told(1, 1) = 0",
            "told(1, 2) = -8", "told(1, 3) = 0", "told(0, 4) = NONE", "told(1, 4) = NONE", "told(2, 4) = 1",
            "told(1, 5) = 0", "told(2, 5) = 1", "told(1, 6) = 0", "print(1, 0, 0) = 0", "told(1, 6) = 1",
            "told(1, 7) = NONE", "told(1, 8) = NONE", "told(1, 9) = NONE", "stance(0, 1, 3) = 0",
            "stance(1, 1, -3) = 0", "would(1, 0) = 1", "told(1, 7) = NONE", "put(1) = 0", "told(1, 7) = 1",
            "told(1, 8) = 1", "told(1, 9) = 3", "told(1, 3) = 2", "told(0, 7) = NONE", "paper(7, 0, 0) = 3",
            "print(0, 0, 0) = 0", "stance(0, 0, 1) = 0", "put(0) = 1", "told(0, 8) = 0", "rule(3) = 1", "mend(0) = 1",
            "stance(1, 0, -1) = 0", "told(0, 8) = 0", "put(0) = 0", "told(0, 8) = 1", "told(0, 9) = 3");
        DOC.says("BAD.", "told(4, 0) = BAD", "told(-1, 0) = BAD", "told(0, 10) = BAD", "told(0, -1) = BAD");
    }

    private static void papersRead() {
        DOC.begin("paper(1, 52, 9) = 0", "paper(2, 0, -8) = 1", "hung(0, 7, 1, 1) = 2", "paper(4, 0, 6) = 3",
            "paper(0, 0, 0) = 4");
        DOC.says("A PAPER as one of a KIND: its b.",
            Document.each("as(2, #) = 7", "0", "1", "2", "3"), Document.each("as(1, #) = -8", "0", "1", "2"),
            "as(0, 1) = 9",
            "as(3, 4) = 6", "as(3, 0) = 6", "as(4, 0) = 0");
        DOC.says("BAD: paper, kind; KIND: it is not of that KIND, nor of one under it.", "as(5, 0) = BAD",
            "as(-1, 0) = BAD", "as(0, 8) = BAD", "as(0, -1) = BAD", "as(1, 3) = KIND", "as(0, 2) = KIND",
            "as(3, 1) = KIND", "as(4, 4) = KIND", "as(0, 4) = KIND", "as(2, 4) = KIND", "as(9, 9) = BAD");
        DOC.says("STANCE of a PARTY on a PAPER becomes v: what it was.", "stance(0, 4, 9) = 0", "stance(0, 4, -9) = 9",
            "stance(8, 4, 1) = 0", "stance(0, 3, 1) = 0", "stance(0, 4, 0) = -9");
        DOC.says("BAD.", "stance(9, 4, 1) = BAD", "stance(-1, 4, 1) = BAD", "stance(0, 5, 1) = BAD",
            "stance(0, 4, 10) = BAD", "stance(0, 4, -10) = BAD", "stance(0, 4, NONE) = BAD", "stance(0, 4, 0) = 0");
        DOC.begin("paper(1, 52, 9) = 0", "member(0, 1) = 0", Houses.minutes(9950));
        DOC.says("A SHEET of a PAPER in a TONGUE, so many MINUTES (0 .. 99) later (behind 9999 it never comes): "
            + "how many are on their way.", "print(0, 0, 0) = 0", "print(0, 1, 99) = 1", "print(0, 2, 49) = 2",
            "print(0, 3, 50) = 3", "print(0, 4, 0) = 3", "run(48) = 9998", "told(0, 6) = 17", "run(1) = 9999",
            "told(0, 6) = 21", "count(10) = 2", "run(1) = FULL");
        DOC.says("BAD; FULL (with 0, too).", "print(1, 0, 0) = BAD", "print(0, 7, 0) = BAD", "print(0, -1, 0) = BAD",
            "print(0, 0, 100) = BAD", "print(0, 0, -1) = BAD", Document.many(3, 30, "print(0, 5, 9) = #"),
            "print(0, 5, 9) = FULL", "print(0, 5, 0) = FULL", "print(1, 5, 0) = BAD", "told(0, 6) = 21");
        DOC.says("Whether a MEMBER has READ a PAPER: 1, 0.", "read(0, 0) = 1", "member(0, 2) = 1", "read(1, 0) = 0",
            "paper(7, 0, 0) = 1", "read(0, 1) = 0");
        DOC.says("BAD.", "read(2, 0) = BAD", "read(0, 2) = BAD", "read(-1, 0) = BAD", "read(0, -1) = BAD");
    }

    private static void votes() {
        DOC.begin("member(0, 1) = 0", "member(1, 1) = 1", "member(1, 1) = 2", "member(2, 0) = 3", "paper(1, 52, 9) = 0",
            "paper(4, 0, 9) = 1", "paper(7, 0, 0) = 2", "print(0, 0, 0) = 0", "stance(0, 0, 1) = 0",
            "stance(1, 0, -1) = 0");
        DOC.says("What a VOTE on a PAPER would be now: what 0 Y, 1 N, 2 P, 3 whether it would pass (1, 0).",
            "would(0, 0) = 1", "would(0, 1) = 2", "would(0, 2) = 4", "would(0, 3) = 0", "stance(1, 0, 5) = -1",
            "would(0, 0) = 3", "would(0, 1) = 0", "would(0, 3) = 1", "would(1, 2) = 4", "would(1, 3) = 0",
            "'may 0' from 0 = 0", "would(0, 3) = 1", "'pass k = 4' from 0 = 1", "would(0, 3) = 0", "would(1, 3) = 1");
        DOC.says("BAD; KIND: none of KINDS 1 .. 4.", "would(3, 0) = BAD", "would(0, 4) = BAD", "would(0, -1) = BAD",
            "would(2, 0) = KIND", "would(2, 4) = BAD", "paper(0, 0, 0) = 3", "would(3, 0) = KIND", "paper(5, 0, 1) = 4",
            "would(4, 0) = KIND", "paper(6, 12, 0) = 5", "would(5, 3) = KIND");
        DOC.begin("member(0, 1) = 0", "paper(1, 0, 5) = 0", "paper(1, 0, 5) = 1", "paper(2, 0, 1) = 2",
            "hung(0, 1, 2, 1) = 3", "paper(4, 0, 1) = 4", "print(0, 0, 0) = 0", "stance(0, 0, 1) = 0");
        DOC.says("A PAPER is PUT: 1 PASSED, 0 LOST.", "put(1) = 0", "told(1, 3) = 2", "put(0) = 1", "told(0, 3) = 1",
            "told(4, 3) = 1");
        DOC.says("BAD; KIND: none of KINDS 1 .. 3; NO: as told, or it is not OPEN.", "put(5) = BAD", "put(-1) = BAD",
            "put(4) = KIND", "put(0) = NO", "put(1) = NO", "put(2) = NO", "put(3) = NO", "paper(1, 0, 1) = 5",
            "'may 0' from 0 = 0", "put(5) = NO", "paper(5, 0, 1) = 6", "put(6) = KIND", "paper(6, 12, 5) = 7",
            "put(7) = KIND", "paper(7, 0, 0) = 8", "put(8) = KIND", "paper(0, 0, 0) = 9", "put(9) = KIND",
            "told(5, 7) = NONE");
    }

    private static void rulings() {
        DOC.begin("member(0, 1) = 0", "paper(1, 0, 5) = 0", "paper(2, 0, 1) = 1", "paper(4, 0, 1) = 2",
            "paper(4, 0, 1) = 3", "paper(7, 0, 0) = 4", "paper(7, 0, 0) = 5", "paper(1, 0, 8) = 6",
            "print(0, 0, 0) = 0", "stance(0, 0, 1) = 0", "print(1, 0, 0) = 0", "stance(0, 1, 1) = 0", "put(1) = 1",
            "put(0) = 1");
        DOC.says("A RULING works: how many PAPERS (the LINE, CHANGES, RIDERS) are VOID by it.", "rule(4) = 4",
            "count(8) = 4", "told(4, 3) = 1", "told(5, 3) = 0");
        DOC.says("BAD; KIND: it is none; NO: it is not OPEN, or its LINE did not PASS.", "rule(7) = BAD",
            "rule(-1) = BAD", "rule(0) = KIND", "rule(2) = KIND", "rule(4) = NO", "rule(5) = NO", "told(5, 3) = 0");
        DOC.says("A LINE that is VOID is MENDED: 1.", "mend(0) = 1", "told(0, 3) = 0", "told(1, 3) = 4", "put(0) = 1",
            "rule(4) = NO", "rule(5) = 1", "told(0, 3) = 4");
        DOC.says("BAD; KIND: no LINE (CHANGES are none); NO: it is not VOID.", "mend(7) = BAD", "mend(-1) = BAD",
            "mend(1) = KIND", "mend(2) = KIND", "mend(6) = NO", "mend(0) = 1", "mend(0) = NO");
        DOC.begin("member(0, 1) = 0", "paper(1, 0, 5) = 0", "paper(2, 0, 1) = 1", "hung(0, 1, 1, 0) = 2",
            "hung(0, 1, 1, 0) = 3", "hung(0, 1, 3, 1) = 4", "paper(4, 0, 1) = 5", "paper(1, 0, 5) = 6",
            "hung(6, 1, 2, 1) = 7");
        DOC.says("FALLS WITH a CHANGE: how many.", "falls(1) = 4", "falls(2) = 0", "falls(3) = 0", "falls(4) = 0",
            "told(2, 3) = 0");
        DOC.says("BAD; KIND: it is none; NO: it is not OPEN.", "falls(8) = BAD", "falls(-1) = BAD", "falls(0) = KIND",
            "falls(5) = KIND", "put(3) = 0", "falls(3) = NO", "falls(1) = 2", "falls(4) = NO");
        DOC.says("Whether a CHANGE is NEVER: 1, 0.", "never(1) = 0", "never(2) = 0", "never(7) = 0", "put(6) = 0",
            "never(1) = 0", "paper(1, 0, 5) = 8", "hung(8, 1, 1, 0) = 9", "hung(0, 1, 9, 1) = 10", "never(9) = 0",
            "put(8) = 0", "paper(2, 8, 1) = 11", "never(11) = 1", "hung(0, 1, 11, 1) = 12", "never(12) = 1",
            "hung(0, 1, 9, 1) = 13", "never(13) = 1", "hung(0, 1, 9, 0) = 14", "never(14) = 0");
        DOC.says("BAD; KIND; NO as of falls().", "never(15) = BAD", "never(-1) = BAD", "never(0) = KIND",
            "never(5) = KIND", "never(3) = NO", "never(9) = NO", "never(7) = NO");
    }

    private static void rows() {
        DOC.begin("member(0, 1) = 0", "paper(1, 0, 5) = 0", "paper(2, 0, 1) = 1", "paper(2, 0, 3) = 2",
            "hung(0, 3, 1, 1) = 3", "'order v' from 0 = 0");
        DOC.says("The i-th of THE ROW (from 0 on).", "row(0) = 2", "row(1) = 3", "row(2) = 1");
        DOC.says("BAD: i below 0; NONE.", "row(-1) = BAD", "row(NONE) = BAD", "row(3) = NONE", "row(40) = NONE",
            "row(MAX) = NONE");
        DOC.ask("paper(5, 0, 30007) = 4", "paper(5, 0, 20005) = 5", "paper(4, 0, 30007) = BAD", "paper(4, 0, 1) = 6",
            "paper(4, 0, 2) = 7");
        DOC.says("Of a LINE: what 0 BINDING SUM, 1 how many UNLIKE, 2 how many CHANGES to it are OPEN, 3 RIDERS on "
            + "it (in any state).", "line(0, 0) = 5", "'bind s' from 0 = 1", "line(0, 0) = 7", "line(0, 1) = 1",
            "line(0, 2) = 3", "line(0, 3) = 2", "put(2) = 0", "line(0, 2) = 2", "put(0) = 0", "line(0, 2) = 0",
            "line(0, 3) = 2", "told(6, 3) = 3", "line(0, 0) = 7");
        DOC.says("BAD; KIND: no LINE (CHANGES are none).", "line(8, 0) = BAD", "line(-1, 0) = BAD", "line(0, 4) = BAD",
            "line(0, -1) = BAD", "line(1, 0) = KIND", "line(3, 0) = KIND", "line(6, 0) = KIND", "line(1, 4) = BAD");
    }

    private static void texts() {
        DOC.begin();
        DOC.says("Twelve bytes come to THE TAPE, the highest of each number first: how many it has.",
            "feed(1885434739, 544808992, 538976288) = 12", "text(0) = 0",
            "feed(1835104544, 824188960, 589307936) = 12", "text(0) = -108",
            "feed(1835104544, 824188963, 538976288) = 12", "text(0) = -107",
            "feed(1835104544, 824188960, 538976291) = 12", "text(0) = -111",
            "feed(1835104544, 589307936, 538976288) = 12", "text(0) = -104",
            "feed(594370937, 540090400, 538976288) = 12", "text(0) = -100",
            "feed(1831035257, 540090400, 538976288) = 12", "text(0) = -100",
            "feed(1835104544, -1, 538976288) = 12", "text(0) = -104",
            "feed(1835104544, 824188960, -2145378272) = 12", "text(0) = -108");
        DOC.says("FULL: it would have more than 96.", Document.many(1, 1, "feed(0, 0, 0) = 12"), "feed(0, 0, 0) = 24",
            "feed(0, 0, 0) = 36", "feed(0, 0, 0) = 48", "feed(0, 0, 0) = 60", "feed(0, 0, 0) = 72",
            "feed(0, 0, 0) = 84", "trim(83) = 83", "feed(0, 0, 0) = 95", "feed(0, 0, 0) = FULL", "count(15) = 95",
            "trim(85) = 85", "feed(0, 0, 0) = FULL", "trim(84) = 84", "feed(0, 0, 0) = 96");
        DOC.says("THE TAPE keeps its first n bytes: n.", "trim(96) = 96", "trim(50) = 50", "trim(0) = 0",
            "count(15) = 0", "'may 11' = 6", "trim(5) = 5", "text(0) = 1", "why(1) = 1");
        DOC.says("BAD.", "trim(1) = BAD", "trim(-1) = BAD", "'may' = 3", "trim(4) = BAD", "trim(97) = BAD",
            "trim(3) = 3");
        DOC.says("THE TAPE is a TEXT from an HOUR (0 .. 166) on: its number.",
            "'may 1' from 0 = 2", "'may 1' from 166 = 3", "of(3, 1) = 166", "count(15) = 0");
        DOC.says("BAD (asked first; THE TAPE is used up, too); -100 less the place of its FAULT; FULL.",
            "'may' from 167 = BAD", "count(15) = 0",
            "'may' from -1 = BAD", "'may' from 0 = -103", "'may x' from 0 = -104",
            Document.many(4, 11, "'may 1' from 0 = #"), "'may 1' from 0 = FULL", "count(15) = 0",
            "'may' from 0 = -103", "'may 1' from 167 = BAD");
        DOC.begin("'pass y + 12 > n' from 3 = 0", "'may 1' from 0 = 1", "'order !!(k) * v - 0007' from 166 = 2",
            "'bind t' from 0 = 3");
        DOC.says("Of a TEXT: what 0 KEY (0 .. 3, as told), 1 the HOUR, 2 how many NUMBERS and NAMES it has.",
            Document.many(0, 3, "of(#, 0) = #"), "of(0, 1) = 3", "of(2, 1) = 166", "of(0, 2) = 3", "of(1, 2) = 1",
            "of(2, 2) = 3", "of(3, 2) = 1");
        DOC.says("BAD.", "of(4, 0) = BAD", "of(-1, 0) = BAD", "of(0, 3) = BAD", "of(0, -1) = BAD");
        DOC.says("WHY: the TEXT that counts for a KEY now.", "why(1) = 1", "why(3) = 3", "run(180) = 180", "why(0) = 0",
            "'may 0' from 2 = 4", "why(1) = 4");
        DOC.says("BAD; NONE.", "why(2) = NONE", "why(4) = BAD", "why(-1) = BAD");
    }

    private static void balances() {
        DOC.begin();
        DOC.says("One more INCOME: its number.", Document.many(0, 6, "income(#, 9) = #"), "count(11) = 7",
            "balance(0) = 21", "balance(1) = 63");
        DOC.says("BAD; FULL.", "income(-1, 0) = BAD", "income(3, 2) = BAD", "income(0, 10000) = BAD",
            "income(9999, 9999) = 7", "income(0, 0) = FULL", "income(1, 0) = BAD");
        DOC.begin("member(0, 1) = 0", "income(5, 20) = 0", "paper(1, 0, 3) = 0", "paper(1, 11, 4) = 1",
            "paper(1, 12, 5) = 2", "paper(1, 73, 6) = 3", "paper(1, 70, 7) = 4", "put(4) = 0");
        DOC.says("BALANCE at LEAST (what 0), at MOST (1), SUMS of LINES OPEN or PASSED of an OFFICE (2 .. 9: "
            + "OFFICE 0 .. 7), of a LAND (10 .. 13).", "balance(0) = -13", "balance(1) = 2", "balance(2) = 3",
            "balance(3) = 9", Document.many(4, 8, "balance(#) = 0"), "balance(9) = 6", "balance(10) = 3",
            "balance(11) = 4", "balance(12) = 5", "balance(13) = 6", "print(3, 0, 0) = 0", "stance(0, 3, 1) = 0",
            "put(3) = 1", "balance(13) = 6");
        DOC.says("BAD.", "balance(14) = BAD", "balance(-1) = BAD");
        DOC.says("THE BREAK.", "first() = NONE", "paper(2, 0, 1) = 5", "paper(2, 1, 2) = 6", "paper(2, 2, 1) = 7",
            "first() = 6");
        DOC.says("NONE.", "paper(1, 0, 0) = 8", "'order 0 - v' from 0 = 0", "paper(2, 1, -4) = 9", "first() = NONE");
    }

    private static void books() {
        DOC.begin();
        DOC.says("The BOOK of an OFFICE becomes a row of n YEARS of a sort, all 0 (sort -1: MISSING, n any): n (0).",
            "book(0, 0, 3) = 3", "note(0, 0, 5) = 1", "book(0, 0, 2) = 2", "looks(0, 0) = 0", "book(0, 1, 20) = 20",
            "book(0, 1, 0) = 0", "looks(0, 0) = INDEX", "book(0, -1, 5) = 0", "looks(0, 0) = NOTHING",
            "book(0, -1, -5) = 0", "book(0, -1, 21) = 0", "book(7, -1, MAX) = 0");
        DOC.says("BAD: office, sort, n above 20; SIZE.", "book(8, 0, 1) = BAD", "book(-1, 0, 1) = BAD",
            "book(0, -2, 1) = BAD", "book(0, 2, 1) = BAD", "book(0, 0, 21) = BAD", "book(0, 1, MAX) = BAD",
            "book(0, 0, -1) = SIZE", "book(0, 1, MIN) = SIZE", "book(0, 2, -1) = BAD", "book(8, 0, -1) = BAD",
            "looks(0, 0) = NOTHING");
        DOC.begin("book(0, 0, 2) = 2", "book(1, 1, 3) = 3", "book(2, 0, 0) = 0");
        DOC.says("A YEAR of a BOOK becomes v (of floats v halves, -100000 .. 100000; NONE: NO NUMBER): 1.",
            "note(0, 1, MAX) = 1", "looks(0, 1) = MAX", "note(0, 0, MIN) = 1", "looks(0, 0) = MIN",
            "note(1, 0, 100000) = 1", "looks(1, 0) = 100000", "note(1, 1, -100000) = 1", "looks(1, 1) = -100000",
            "note(1, 1, NONE) = 1", "looks(1, 1) = 100000", "note(0, 0, BAD) = 1", "looks(0, 0) = BAD");
        DOC.says("BAD: office; NOTHING; INDEX; KIND: NONE in a row of ints; BAD: v of floats.", "note(8, 0, 1) = BAD",
            "note(-1, 0, 1) = BAD", "note(3, 0, 1) = NOTHING", "note(3, -1, NONE) = NOTHING", "note(0, 2, 1) = INDEX",
            "note(0, -1, NONE) = INDEX", "note(2, 0, 1) = INDEX", "note(0, 0, NONE) = KIND", "note(1, 0, 100001) = BAD",
            "note(1, 0, -100001) = BAD", "note(1, 3, 100001) = INDEX", "looks(1, 0) = 100000");
        DOC.says("READ.", "note(1, 0, -3) = 1", "looks(1, 0) = -3", "looks(1, 1) = -3", "looks(1, 2) = 0",
            "note(0, 0, -3) = 1", "looks(0, 0) = -3");
        DOC.says("BAD: office; NOTHING; INDEX; KIND: NO NUMBER from the first YEAR on.", "looks(8, 0) = BAD",
            "looks(-1, 0) = BAD", "looks(3, 0) = NOTHING", "looks(3, -1) = NOTHING", "looks(0, 2) = INDEX",
            "looks(0, -1) = INDEX", "note(1, 0, NONE) = 1", "looks(1, 1) = KIND", "looks(1, 2) = 0");
        DOC.begin("book(0, 0, 5) = 5", Document.many(0, 4, "note(0, #, ~) = 1"), "book(1, 0, 3) = 3",
            "book(2, 1, 3) = 3", "book(3, 1, 2) = 2", "note(2, 0, NONE) = 1", "note(2, 1, 7) = 1");
        DOC.says("So many YEARS of a BOOK come to another one (or the same), as they were: many.",
            "copy(0, 3, 1, 1, 2) = 2", "looks(1, 0) = 0", "looks(1, 1) = 4", "looks(1, 2) = 5",
            "copy(0, 0, 0, 1, 4) = 4", "looks(0, 0) = 1", "looks(0, 1) = 1", "looks(0, 2) = 2", "looks(0, 4) = 4",
            "copy(0, 2, 0, 1, 3) = 3", "looks(0, 1) = 2", "looks(0, 3) = 4", "looks(0, 4) = 4", "note(3, 0, 9) = 1",
            "copy(2, 0, 3, 1, 1) = 1", "looks(3, 1) = 9");
        DOC.says("BAD; NOTHING; KIND: they are not of one sort; INDEX (many below 0, too; at the end with many 0: "
            + "not).", "copy(8, 0, 0, 0, 1) = BAD", "copy(0, 0, -1, 0, 1) = BAD", "copy(4, 0, 8, 0, 1) = BAD",
            "copy(4, 0, 0, 0, 1) = NOTHING", "copy(0, 0, 4, 9, 1) = NOTHING", "copy(0, 9, 2, 0, 1) = KIND",
            "copy(2, 0, 0, 0, 0) = KIND", "copy(0, 0, 1, 0, 4) = INDEX", "copy(1, 0, 0, 3, 3) = INDEX",
            "copy(1, -1, 0, 0, 1) = INDEX", "copy(1, 0, 0, -1, 1) = INDEX", "copy(1, 0, 0, 0, -1) = INDEX",
            "copy(1, 3, 0, 5, 0) = 0", "copy(1, 4, 0, 0, 0) = INDEX", "copy(1, 0, 0, 6, 0) = INDEX",
            "copy(1, 1, 0, 0, MAX) = INDEX", "copy(1, MAX, 0, 0, 1) = INDEX");
        DOC.says("(From an OFFICE's, its YEAR, to an OFFICE's, its YEAR.)", "copy(1, 2, 0, 4, 1) = 1",
            "looks(0, 4) = 5", "copy(0, 4, 1, 0, 1) = 1", "looks(1, 0) = 5", "looks(1, 2) = 5");
        DOC.begin("book(0, 0, 2) = 2", "note(0, 0, 4) = 1", "book(1, 1, 2) = 2", "note(1, 0, 5) = 1",
            "note(1, 1, NONE) = 1", "book(2, 1, 1) = 1", "note(2, 0, NONE) = 1");
        DOC.says("Of a YEAR: NOT KNOWN (what 0), THE SPAN's least (1), greatest (2).", "span(0, 0) = 6",
            "span(0, 1) = 4", "span(0, 2) = 5", "span(1, 0) = 6", "span(1, 1) = 0", "span(1, 2) = 5",
            "span(MAX, 0) = 8");
        DOC.says("BAD: year below 0, what; NONE (1, 2): none can be READ.", "span(-1, 0) = BAD", "span(0, 3) = BAD",
            "span(0, -1) = BAD", "span(2, 0) = 8", "span(2, 1) = NONE", "span(2, 2) = NONE");
    }

    private static void wishes() {
        DOC.begin("member(0, 1) = 0", "member(0, 1) = 1", "paper(1, 0, 7) = 0");
        DOC.says("WISHES of a PARTY become a set (0 .. 255): what they were.", "wish(0, 255) = 0", "wish(0, 1) = 255",
            "wish(8, 3) = 0", "wish(0, 1) = 1");
        DOC.says("BAD.", "wish(9, 0) = BAD", "wish(-1, 0) = BAD", "wish(0, 256) = BAD", "wish(0, -1) = BAD",
            "wish(0, 1) = 1");
        DOC.says("CARRY n (1 .. 20): what 0 the set, 1 the SUMS, 2 MEMBERS.", "carry(1, 0) = 1", "carry(1, 1) = 7",
            "carry(1, 2) = 2", "carry(2, 0) = 1");
        DOC.says("BAD; NONE.", "carry(0, 0) = BAD", "carry(21, 0) = BAD", "carry(1, 3) = BAD", "carry(1, -1) = BAD",
            "carry(3, 0) = NONE", "carry(3, 1) = NONE", "carry(20, 2) = NONE", "carry(20, 3) = BAD");
    }

    private static void shifts() {
        DOC.begin();
        DOC.says("One more INTERPRETER: the number.", Document.many(0, 5, "interpreter() = #"), "count(12) = 6");
        DOC.says("FULL.", "interpreter() = FULL", "count(12) = 6");
        DOC.says("An INTERPRETER speaks from a TONGUE to another one, and back: how many such twos the INTERPRETER "
            + "has (each once).", "speaks(0, 0, 6) = 1", "speaks(0, 6, 0) = 1", "speaks(0, 5, 6) = 2",
            "speaks(1, 1, 2) = 1");
        DOC.says("BAD: also if they are one.", "speaks(6, 0, 1) = BAD", "speaks(-1, 0, 1) = BAD",
            "speaks(0, 7, 1) = BAD", "speaks(0, 1, 7) = BAD", "speaks(0, -1, 1) = BAD", "speaks(0, 1, NONE) = BAD",
            "speaks(0, 3, 3) = BAD", "speaks(0, 0, 6) = 2");
        DOC.says("The SPEECH of an HOUR (0 .. 7) is from a TONGUE to another one (unlike; or one of the two NONE, "
            + "whatever the other is: there is none): 1.", "speech(0, 6, 5) = 1", "heard(1) = 1",
            "speech(0, NONE, 99) = 1", "heard(1) = 0", "speech(0, 2, 1) = 1", "heard(1) = 1",
            "speech(0, -9, NONE) = 1", "heard(1) = 0", "speech(7, 0, 6) = 1", "speech(0, NONE, NONE) = 1");
        DOC.says("BAD.", "speech(8, 0, 1) = BAD", "speech(-1, 0, 1) = BAD", "speech(8, NONE, NONE) = BAD",
            "speech(7, 1, 1) = BAD", "speech(7, 7, 1) = BAD", "speech(7, 1, 7) = BAD", "speech(7, -1, 1) = BAD",
            "heard(8) = 1");
        DOC.says("How many are HEARD by THE SHIFT of n HOURS.", "heard(7) = 0", "heard(8) = 1", "speech(0, 1, 2) = 1",
            "heard(1) = 1", "heard(8) = 2");
        DOC.says("BAD.", "heard(0) = BAD", "heard(9) = BAD", "heard(-1) = BAD");
        DOC.begin("interpreter() = 0", "speaks(0, 0, 1) = 1", "speech(2, 0, 1) = 1", "speech(1, 1, 0) = 1");
        DOC.says("The INTERPRETER of THE SHIFT of n HOURS in an HOUR (NONE).", "heard(3) = 2", "shift(3, 0) = NONE",
            "shift(3, 1) = 0", "shift(3, 2) = 0", "shift(2, 0) = 0", "shift(2, 1) = 0", "shift(1, 0) = 0");
        DOC.says("BAD: also an HOUR not below n.", "shift(3, 3) = BAD", "shift(8, 8) = BAD", "shift(0, 0) = BAD",
            "shift(9, 0) = BAD", "shift(3, -1) = BAD");
    }

    private static void nights() {
        DOC.begin();
        DOC.says("One more OFFER: its number.", Document.many(0, 6, "offer(1, ~, 5, 0) = #"), "count(13) = 7");
        DOC.says("BAD: also AGAINST with bits above 255; FULL.", "offer(0, 1, 1, 0) = BAD",
            "offer(10, 1, 1, 0) = BAD", "offer(1, 0, 1, 0) = BAD", "offer(1, 100, 1, 0) = BAD",
            "offer(1, 1, -1, 0) = BAD", "offer(1, 1, 1000, 0) = BAD", "offer(1, 1, 1, 256) = BAD",
            "offer(1, 1, 1, -1) = BAD", "offer(9, 99, 999, 255) = 7", "offer(1, 1, 1, 0) = FULL",
            "offer(0, 1, 1, 0) = BAD");
        DOC.says("THE NIGHT to n (1 .. 99) votes in m (1 .. 999) MINUTES: what 0 the set, 1 its PRICE, 2 its MINUTES.",
            "night(2, 999, 0) = 3", "night(2, 999, 1) = 10", "night(2, 999, 2) = 3", "night(1, 1, 0) = 1");
        DOC.says("BAD; NONE.", "night(0, 1, 0) = BAD", "night(100, 1, 0) = BAD", "night(1, 0, 0) = BAD",
            "night(1, 1000, 0) = BAD", "night(1, 1, 3) = BAD", "night(1, 1, -1) = BAD", "night(2, 2, 0) = NONE",
            "night(99, 999, 1) = NONE", "night(99, 999, 3) = BAD");
    }

    private static void waiting() {
        DOC.begin();
        DOC.says("One more number waits: how many.", "tell(5) = 1", "tell(NONE) = 2", "count(14) = 2",
            Document.many(3, 60, "tell(#) = #"));
        DOC.says("FULL: 60 wait.", "tell(0) = FULL", "count(14) = 60");
        DOC.begin("member(0, 1) = 0", "offer(1, 1, 5, 0) = 0", "offer(1, 1, 6, 0) = 1");
        DOC.says("The numbers that wait (none do then, whatever is answered) are ROWS, two by two: what 0 of THE "
            + "NIGHT (n, m), 1 of THE NIGHT TOLD (n 1 .. 30; m any): 0; else 1 and how many numbers stand right "
            + "ahead of the first that is not (or is missing, or one too many).", "tell(0) = 1", "tell(5) = 2",
            "tell(1) = 3", "tell(11) = 4", "check(0, 2, 9) = 0", "count(14) = 0", "check(0, 2, 9) = 1", "tell(0) = 1",
            "check(0, 2, 9) = 2", "tell(0) = 1", "tell(6) = 2", "tell(1) = 3", "tell(11) = 4", "check(0, 2, 9) = 2",
            "count(14) = 0", "tell(0) = 1", "tell(5) = 2", "tell(1) = 3", "check(0, 2, 9) = 4", "tell(0) = 1",
            "tell(5) = 2", "tell(1) = 3", "tell(11) = 4", "tell(2) = 5", "check(0, 2, 9) = 5", "keep() = 0",
            "go(0, 0) = 1", "tell(1) = 1", "tell(0) = 2", "check(1, 1, MIN) = 0", "tell(1) = 1", "tell(0) = 2",
            "check(1, 2, 0) = 3", "tell(1) = 1", "tell(1) = 2", "check(1, 1, 0) = 2");
        DOC.ask(Document.many(1, 60, "tell(0) = #"), "check(1, 30, 7) = 1", "back() = 0", "go(0, 0) = 1", "keep() = 0",
            Document.many(1, 60, "tell(0) = #"), "check(1, 30, 7) = 0");
        DOC.says("BAD; NONE (0), NO (1: there is no IMAGE).", "tell(1) = 1", "check(2, 1, 1) = BAD", "count(14) = 0",
            "check(-1, 1, 1) = BAD", "check(0, 0, 1) = BAD", "check(0, 100, 1) = BAD", "check(0, 1, 0) = BAD",
            "check(0, 1, 1000) = BAD", "check(1, 0, 1) = BAD", "check(1, 31, 1) = BAD", "tell(1) = 1",
            "check(0, 3, 9) = NONE", "count(14) = 0");
        DOC.begin("tell(1) = 1");
        DOC.ask("check(1, 1, 1) = NO", "count(14) = 0", "check(1, 31, 1) = BAD", "check(0, 1, 1) = NONE");
    }

    private static void images() {
        DOC.begin("run(3) = 3", "member(0, 1) = 0", "paper(1, 0, 5) = 0");
        DOC.says("AN IMAGE is kept: the MINUTE.", "keep() = 3", "run(1) = 4", "keep() = 4");
        DOC.ask("member(0, 1) = 1", "clock(1) = 0", "run(2) = 6", "paper(2, 0, 1) = 1", "stance(0, 0, 9) = 0",
            "print(0, 0, 0) = 0", "print(0, 1, 5) = 1", "put(0) = 1", "pair(0, 1, 9) = 0", "'may 0' from 0 = 0",
            "income(1, 2) = 0", "wish(0, 1) = 0", "interpreter() = 0", "speaks(0, 0, 1) = 1", "speech(0, 0, 1) = 1",
            "offer(1, 1, 1, 1) = 0", "train(0, 99) = NONE", "go(0, 0) = 1");
        DOC.says("All is as THE IMAGE: the MINUTE.", "back() = 4", "count(0) = 1", "count(2) = 0", "clock(0) = 0",
            "count(17) = 4", "count(3) = 1", "stance(0, 0, 0) = 0", "told(0, 6) = 0", "count(10) = 0",
            "told(0, 3) = 0", "told(0, 7) = NONE", "why(1) = NONE", "count(11) = 0", "carry(1, 0) = NONE",
            "wish(0, 0) = 0", "count(12) = 0", "interpreter() = 0", "speaks(0, 0, 2) = 1", "heard(1) = 0",
            "count(13) = 0", "is(0, 2) = NONE", "is(0, 3) = 1", "is(0, 5) = 0", "member(1, 0) = 1", "is(1, 4) = NONE",
            "back() = 4", "count(0) = 1");
        DOC.says("NO: there is none.");
        DOC.begin();
        DOC.ask("back() = NO", "keep() = 0", "back() = 0");
    }

    private static void counts() {
        DOC.begin((Object) Houses.RICH.toArray(new String[0]));
        DOC.says("How many: 0 MEMBERS, 1 of these IN, 2 PAIRS that hold, 3 PAPERS, 4 OPEN ones, 5 PASSED, 6 LOST, "
            + "7 FALLEN, 8 VOID, 9 TEXTS, 10 SHEETS on their way, 11 INCOMES, 12 INTERPRETERS, 13 OFFERS, 14 "
            + "numbers that wait, 15 bytes of THE TAPE, 16 the MINUTE, 17 THE CLOCK.", "count(0) = 6", "count(1) = 5",
            "count(2) = 1", "count(3) = 21", "count(5) = 5", "count(6) = 2", "count(7) = 1", "count(8) = 1",
            "count(4) = 12", "count(9) = 5", "count(10) = 2", "count(11) = 2", "count(12) = 2", "count(13) = 3",
            "count(14) = 2", "count(15) = 3", "count(16) = 8", "count(17) = 7");
        DOC.says("BAD.", "count(18) = BAD", "count(-1) = BAD");
    }
}
