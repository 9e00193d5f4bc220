import java.io.IOException;

/** "Terms" of the document, sentence by sentence, from the first to the last. */
public final class TermsTest {
    private static final Due DUE = new Due("TermsTest");
    private static final Document DOC = new Document(DUE);

    public static void main(String[] args) throws IOException {
        ahead();
        minutesAndMembers();
        kinds();
        numbersOfKinds();
        sheetsAndVotes();
        puts();
        rulings();
        texts();
        faults();
        worths();
        rowAndTongues();
        incomes();
        books();
        wishes();
        shifts();
        offers();
        images();
        DOC.wholePart("## Terms", "## Promise 1:");
        DUE.end();
    }

    /** A PAPER is printed, MEMBERS of PARTY 0 are for it, and it is PUT. */
    private static String[] pass(int paper) {
        return new String[] {"print(" + paper + ", 0, 0) = 0", "stance(0, " + paper + ", 1) = 0",
            "put(" + paper + ") = 1"};
    }

    /** .. and are against it. */
    private static String[] lose(int paper) {
        return new String[] {"print(" + paper + ", 0, 0) = 0", "stance(0, " + paper + ", -1) = 0",
            "put(" + paper + ") = 0"};
    }

    /** The states of PAPERS, from number 0 on. */
    private static String[] states(int... states) {
        String[] rows = new String[states.length];
        for (int p = 0; p < states.length; p++) {
            rows[p] = "told(" + p + ", 3) = " + states[p];
        }
        return rows;
    }

    private static void ahead() {
        DOC.begin("member(0, 1) = 0", "paper(1, 0, 5) = 0");
        DOC.says("All numbers are whole; / cuts towards 0.", "'pass (0 - 7) / 2 = 0 - 3' from 0 = 0",
            "would(0, 3) = 1", "'pass 7 / 2 = 3' from 0 = 1", "would(0, 3) = 1",
            "'pass (0 - 7) / 2 = 0 - 4' from 0 = 2", "would(0, 3) = 0");
        DOC.says("A call that is refused answers one of BAD, NO, FULL, or a FINDING, of several the one that stands "
            + "first with it, and changes nothing (but the tape and the numbers that wait, where told).",
            "put(9) = BAD", "breaks(0) = BAD", "looks(0, 0) = NOTHING", "train(0, 0) = BAD", "is(0, 2) = NONE",
            "copy(0, -1, 8, 0, 0) = BAD", "copy(0, -1, 7, 0, 0) = NOTHING", "book(9, 0, -1) = BAD",
            "book(0, 0, -1) = SIZE", "would(0, 4) = BAD", "tell(7) = 1", "check(0, 0, 1) = BAD", "count(14) = 0",
            "'pass' = 4", "text(167) = BAD", "count(15) = 0", "count(9) = 3", "count(3) = 1", "count(4) = 1");
        DOC.says("NONE: there is none.", "is(0, 2) = NONE", "why(1) = NONE", "row(0) = NONE", "told(0, 7) = NONE");
    }

    private static void minutesAndMembers() {
        DOC.begin();
        DOC.says("MINUTES are numbered; the one that is open is 0 at first (9999 at most).", "count(16) = 0",
            Houses.minutes(9999), "count(16) = 9999", "run(1) = FULL", "count(16) = 9999");
        DOC.begin();
        DOC.says("THE CLOCK (0 at first) goes on with them, but not while it is STOPPED; HOUR: THE CLOCK / 60.",
            "count(17) = 0", "'order 1' from 1 = 0", "run(59) = 59", "count(17) = 59", "clock(1) = 0",
            "run(100) = 159", "count(17) = 59", "clock(0) = 1", "why(2) = NONE", "run(1) = 160", "count(17) = 60",
            "why(2) = 0");
        DOC.begin();
        DOC.says("PARTIES 0 .. 8.", "member(0, 0) = 0", "member(8, 0) = 1", "member(9, 0) = BAD",
            "member(-1, 0) = BAD", "is(1, 0) = 8", "wish(8, 0) = 0", "wish(9, 0) = BAD");
        DOC.begin("paper(0, 0, 0) = 0");
        DOC.says("MEMBERS, 20 at most, numbered from 0: a PARTY, TONGUES that they read (bits 0 .. 127, of TONGUES "
            + "0 .. 6), a TRAIN (the MINUTE in which they leave; NONE at first); IN (at first) or AWAY.",
            "member(3, 0) = 0", "member(0, 127) = 1", "member(0, 128) = BAD", "member(0, -1) = BAD", "is(0, 0) = 3",
            "is(1, 1) = 127", "is(1, 2) = NONE", "is(1, 3) = 1", "print(0, 7, 0) = BAD", "print(0, 6, 0) = 0",
            "read(1, 0) = 1", "read(0, 0) = 0", "train(1, 3) = NONE", "is(1, 2) = 3", "run(2) = 2", "is(1, 3) = 1",
            "run(1) = 3", "is(1, 3) = 0", "is(0, 3) = 1", Document.many(2, 19, "member(1, 1) = #"),
            "member(1, 1) = FULL", "is(19, 0) = 1", "is(20, 0) = BAD", "count(0) = 20");
        DOC.begin(Document.many(0, 19, "member(0, 127) = #"), "paper(1, 0, 5) = 0");
        DOC.says("A PAIR: two MEMBERS, till a MINUTE (that one not any more): who is in a PAIR, while it holds, does "
            + "not vote; one MEMBER is in one PAIR at most that holds; 10 PAIRS at most (those that hold no more, "
            + "too), numbered from 0.", "would(0, 2) = 20", "pair(0, 1, 5) = 0", "would(0, 2) = 18",
            "pair(1, 2, 5) = NO", "pair(3, 0, 5) = NO", "pair(0, 1, 5) = NO", "run(4) = 4", "would(0, 2) = 18",
            "is(0, 4) = 0", "run(1) = 5", "would(0, 2) = 20", "is(0, 4) = NONE", "pair(0, 2, 6) = 1", "is(0, 4) = 1",
            "breaks(1) = 1", "is(2, 4) = NONE", "pair(2, 3, 9) = 2", "pair(4, 5, 9) = 3", "pair(6, 7, 9) = 4",
            "pair(8, 9, 9) = 5", "pair(10, 11, 9) = 6", "pair(12, 13, 9) = 7", "pair(14, 15, 9) = 8",
            "pair(16, 17, 9) = 9", "pair(18, 19, 9) = FULL", "count(2) = 8", "would(0, 2) = 4");
    }

    private static void kinds() {
        DOC.begin();
        DOC.says("PAPERS, 40 at most, numbered from 0, of KINDS: 0 PAPER; 1 LINE, 4 RIDER, 5 TONGUE, 6 DEAL, 7 RULING, "
            + "under PAPER; 2 CHANGE, under LINE; 3 HUNG, under CHANGE (all are PAPERS).", "paper(0, 0, 0) = 0",
            "paper(1, 0, 1) = 1", "paper(2, 1, 2) = 2", "hung(1, 3, 2, 0) = 3", "paper(4, 1, 4) = 4",
            "paper(5, 1, 5) = 5", "paper(6, 1, 1) = 6", "paper(7, 1, 0) = 7", "paper(8, 0, 0) = BAD",
            "paper(-1, 0, 0) = BAD", "paper(3, 1, 3) = BAD", Document.many(0, 7, "told(#, 0) = #"),
            Document.many(0, 3, "as(3, #) = 3"), Document.many(0, 2, "as(2, #) = 2"),
            Document.many(0, 1, "as(1, #) = 1"), "as(1, 2) = KIND", "as(1, 3) = KIND", "as(2, 3) = KIND",
            "as(0, 0) = 0", Document.many(1, 7, "as(0, #) = KIND"), Document.each("as(4, #) = 4", "0", "4"),
            Document.each("as(4, #) = KIND", "1", "2", "3", "5", "6", "7"),
            Document.each("as(5, #) = 5", "0", "5"), Document.each("as(6, #) = 1", "0", "6"),
            Document.each("as(7, #) = 0", "0", "7"), "as(6, 1) = KIND", "as(7, 6) = KIND",
            Document.many(8, 39, "paper(0, 0, 0) = #"), "paper(0, 0, 0) = FULL", "hung(1, 3, 2, 0) = FULL");
        DOC.begin("member(0, 1) = 0", "paper(1, 12, 50) = 0", "paper(2, 0, 3) = 1", "paper(1, 0, 7) = 2",
            "paper(7, 2, 0) = 3");
        DOC.says("Each has numbers a, b, and is 0 OPEN (at first), 1 PASSED, 2 LOST, 3 FALLEN, or 4 VOID:",
            "told(0, 1) = 12", "told(0, 2) = 50", "told(1, 1) = 0", "told(1, 2) = 3", states(0, 0, 0, 0), pass(2),
            "told(2, 3) = 1", lose(0), "told(0, 3) = 2", "told(1, 3) = 3", "rule(3) = 1", states(2, 3, 4, 1));
        DOC.begin();
        DOC.says("PAPER: a, b must be 0.", "paper(0, 1, 0) = BAD", "paper(0, 0, 1) = BAD", "paper(0, -1, 0) = BAD",
            "paper(0, 0, NONE) = BAD", "paper(0, 0, 0) = 0");
        DOC.says("LINE: a: 10 times its OFFICE (0 .. 7) and its LAND (0 .. 3); b: its SUM 0 .. 9999.",
            "paper(1, 0, 0) = 1", "paper(1, 73, 9999) = 2", "paper(1, 80, 0) = BAD", "paper(1, 4, 0) = BAD",
            "paper(1, 74, 0) = BAD", "paper(1, -1, 0) = BAD", "paper(1, 0, 10000) = BAD", "paper(1, 0, -1) = BAD",
            "balance(9) = 9999", "balance(13) = 9999", "balance(2) = 0", "balance(10) = 0");
        DOC.says("CHANGE: a: a LINE (no CHANGE) to which it is; b: how much MORE, -9999 .. 9999.",
            "paper(2, 2, -9999) = 3", "paper(2, 1, 9999) = 4", "paper(2, 2, 10000) = BAD",
            "paper(2, 2, -10000) = BAD", "paper(2, 3, 1) = BAD", "paper(2, 0, 1) = BAD", "paper(2, 5, 1) = BAD",
            "paper(2, -1, 1) = BAD");
    }

    private static void numbersOfKinds() {
        DOC.begin("member(0, 1) = 0", "paper(1, 0, 50) = 0", "paper(2, 0, 1) = 1");
        DOC.says("HUNG likewise, and ON a CHANGE (a HUNG one, too; one that was there ahead of it), in a MODE: 0 it "
            + "FALLS as that is PASSED (before, too), 1 it COMES with that: it cannot be put while that is OPEN, and "
            + "FALLS as that is LOST, FALLEN or VOID.", "hung(0, 2, 1, 0) = 2", "hung(0, 4, 1, 1) = 3",
            "hung(0, 8, 3, 1) = 4", "hung(0, 16, 5, 0) = BAD", "hung(0, 16, 0, 0) = BAD", "hung(1, 16, 1, 0) = BAD",
            "hung(0, 10000, 1, 0) = BAD", "hung(0, -10000, 1, 0) = BAD", "hung(0, 9, 1, 2) = BAD",
            "hung(0, 9, 1, -1) = BAD", "told(3, 4) = 1", "told(4, 4) = 3", "told(3, 5) = 1", "told(2, 5) = 0",
            "put(3) = NO", pass(1), states(0, 1, 3, 0, 0), lose(3), states(0, 1, 3, 2, 3), "hung(0, 1, 1, 0) = 5",
            "hung(0, 1, 3, 1) = 6", "hung(0, 1, 3, 0) = 7", "paper(2, 0, 1) = 8", "told(5, 3) = 0", lose(8),
            states(0, 1, 3, 2, 3, 3, 3, 0, 2));
        DOC.begin("member(0, 1) = 0", "paper(1, 0, 50) = 0", "paper(2, 0, 1) = 1", "paper(7, 0, 0) = 2",
            "hung(0, 1, 1, 1) = 3", "paper(1, 0, 9) = 4", "paper(2, 4, 1) = 5", "hung(0, 1, 5, 1) = 6",
            "hung(0, 1, 5, 0) = 7");
        DOC.ask(pass(1), lose(4), states(0, 1, 0, 0, 2, 3, 3, 0), pass(0), "rule(2) = 2",
            states(4, 4, 1, 3, 2, 3, 3, 0));
        DOC.begin();
        DOC.says("RIDER: a: a LINE (no CHANGE, here and below) on which it rides; b 0 .. 9999.", "paper(1, 0, 5) = 0",
            "paper(2, 0, 1) = 1", "paper(4, 0, 0) = 2", "paper(4, 0, 9999) = 3", "paper(4, 0, 10000) = BAD",
            "paper(4, 0, -1) = BAD", "paper(4, 1, 5) = BAD", "paper(4, 2, 5) = BAD", "paper(4, 9, 5) = BAD",
            "line(0, 3) = 2");
        DOC.says("TONGUE: a: a LINE; b: 10000 times a TONGUE and a SUM 0 .. 9999.", "paper(5, 0, 0) = 4",
            "paper(5, 0, 69999) = 5", "paper(5, 0, 70000) = BAD", "paper(5, 0, -1) = BAD", "paper(5, 1, 0) = BAD",
            "paper(5, 2, 0) = BAD", "line(0, 1) = 2");
        DOC.says("DEAL: a: 10 times a PARTY and a PARTY (unlike ones): the first votes for b: a PAPER of KINDS 1 .. 4.",
            "paper(6, 1, 0) = 6", "paper(6, 87, 1) = 7", "paper(6, 78, 2) = 8", "paper(6, 11, 0) = BAD",
            "paper(6, 0, 0) = BAD", "paper(6, 9, 0) = BAD", "paper(6, 90, 0) = BAD", "paper(6, -1, 0) = BAD",
            "paper(6, 1, 4) = BAD", "paper(6, 1, 6) = BAD", "paper(6, 1, -1) = BAD", "hung(0, 1, 1, 0) = 9",
            "paper(6, 1, 9) = 10", "paper(0, 0, 0) = 11", "paper(6, 1, 11) = BAD", "member(0, 0) = 0",
            "member(1, 0) = 1", "would(0, 0) = 1", "would(0, 2) = 2", "would(1, 0) = 0", "would(9, 0) = 1");
        DOC.says("RULING: a: a LINE; b must be 0.", "paper(7, 0, 1) = BAD", "paper(7, 0, -1) = BAD",
            "paper(7, 1, 0) = BAD", "paper(7, 2, 0) = BAD", "paper(7, 0, 0) = 12", "paper(6, 1, 12) = BAD");
        DOC.says("STANCE of a PARTY on a PAPER: -9 .. 9 (0 at first).", "stance(0, 0, 9) = 0", "stance(0, 0, -9) = 9",
            "stance(0, 0, 10) = BAD", "stance(0, 0, -10) = BAD", "stance(0, 0, 0) = -9", "stance(8, 12, 1) = 0",
            "stance(8, 12, 0) = 1", "stance(9, 0, 0) = BAD");
        DOC.begin("member(0, 1) = 0", "paper(1, 0, 5) = 0");
        DOC.says("STATE of a PAPER is told as it is.", "told(0, 3) = 0", pass(0), "told(0, 3) = 1");
    }

    private static void sheetsAndVotes() {
        DOC.begin("paper(0, 0, 0) = 0");
        DOC.says("SHEETS: a PAPER is printed in a TONGUE, and comes so many MINUTES later (with 0 at once); 30 at most "
            + "on their way.", "print(0, 0, 0) = 0", "told(0, 6) = 1", "print(0, 1, 2) = 1", "run(1) = 1",
            "told(0, 6) = 1", "run(1) = 2", "told(0, 6) = 3", Document.many(1, 30, "print(0, 2, 50) = #"),
            "print(0, 2, 50) = FULL", "print(0, 3, 0) = FULL", "count(10) = 30", "run(49) = 51", "count(10) = 30",
            "run(1) = 52", "count(10) = 0", "told(0, 6) = 7");
        DOC.says("CAME of a PAPER: TONGUES in which it came (bits).", "print(0, 6, 0) = 0", "told(0, 6) = 71",
            "print(0, 6, 0) = 0", "told(0, 6) = 71");
        DOC.begin("paper(0, 0, 0) = 0", "member(0, 6) = 0", "member(0, 0) = 1");
        DOC.says("A MEMBER has READ a PAPER, if it CAME in a TONGUE that the MEMBER reads.", "print(0, 0, 0) = 0",
            "read(0, 0) = 0", "print(0, 1, 1) = 1", "read(0, 0) = 0", "run(1) = 1", "read(0, 0) = 1",
            "read(1, 0) = 0");
        DOC.begin("member(0, 1) = 0", "member(1, 1) = 1", "member(2, 1) = 2", "member(0, 2) = 3", "member(0, 1) = 4",
            "member(0, 1) = 5", "member(1, 1) = 6", "member(3, 0) = 7", "paper(1, 0, 5) = 0", "go(4, 0) = 1",
            "pair(5, 6, 9) = 0", "paper(6, 32, 0) = 1", "print(0, 0, 0) = 0", "stance(0, 0, 1) = 0",
            "stance(1, 0, -1) = 0", "stance(3, 0, -5) = 0");
        DOC.says("A VOTE on a PAPER (of KINDS 1 .. 4): each MEMBER who is IN, and in no PAIR that holds, is PRESENT: "
            + "yes, if a DEAL that is OPEN binds the PARTY to vote for it; else, if the MEMBER has READ it: yes by a "
            + "STANCE above 0, no by one below 0; else nothing.", "would(0, 0) = 2", "would(0, 1) = 1",
            "would(0, 2) = 5", "would(1, 0) = KIND", "paper(0, 0, 0) = 2", "would(2, 0) = KIND", "paper(4, 0, 1) = 3",
            "would(3, 0) = 0", "would(3, 2) = 5", "paper(5, 0, 1) = 4", "would(4, 0) = KIND", "paper(7, 0, 0) = 5",
            "would(5, 0) = KIND", "paper(2, 0, 1) = 6", "hung(0, 1, 6, 0) = 7", "would(6, 2) = 5", "would(7, 2) = 5");
        DOC.says("Y, N, P: how many yes, no, PRESENT.", "put(0) = 1", "told(0, 7) = 2", "told(0, 8) = 1",
            "told(0, 9) = 5", "told(1, 3) = 1", "would(0, 0) = 1", "told(0, 7) = 2");
        DOC.begin("member(0, 1) = 0", "paper(1, 0, 5) = 0", "print(0, 0, 0) = 0", "stance(0, 0, -1) = 0");
        DOC.says("It passes by THE RULE of pass.", "would(0, 3) = 0", "'pass n' from 0 = 0", "would(0, 3) = 1",
            "put(0) = 1");
    }

    private static void puts() {
        DOC.begin("member(0, 1) = 0", "paper(1, 0, 5) = 0", "paper(1, 0, 5) = 1", "paper(2, 0, 1) = 2",
            "hung(0, 1, 2, 1) = 3", "paper(4, 0, 1) = 4", "paper(0, 0, 0) = 5");
        DOC.says("To PUT a PAPER of KINDS 1 .. 3 (OPEN ones): a VOTE; it is PASSED or LOST.", pass(2), lose(3), pass(0),
            lose(1), states(1, 2, 1, 2), "put(0) = NO", "put(1) = NO", "put(2) = NO", "put(3) = NO", "put(4) = KIND",
            "put(5) = KIND", "told(3, 8) = 1", "told(4, 8) = NONE", "is(0, 5) = 4");
        DOC.begin("member(0, 1) = 0", "paper(1, 0, 5) = 0", "paper(1, 0, 5) = 1", "paper(2, 0, 1) = 2",
            "paper(2, 1, 1) = 3", "hung(0, 1, 3, 0) = 4", "paper(4, 0, 1) = 5", "paper(4, 1, 1) = 6",
            "paper(2, 0, 1) = 7", "paper(5, 0, 1) = 8", "paper(7, 0, 0) = 9");
        DOC.says("A LINE that is LOST: each OPEN CHANGE to it FALLS, its RIDERS that are OPEN, too; one that is "
            + "PASSED: its RIDERS that are OPEN are PASSED.", pass(7), lose(0),
            states(2, 0, 3, 0, 3, 3, 0, 1, 0, 0), pass(1), states(2, 1, 3, 0, 3, 3, 1, 1, 0, 0));
        DOC.begin("member(0, 1) = 0", "paper(1, 0, 50) = 0", "paper(2, 0, -60) = 1", "paper(2, 0, 9999) = 2",
            "paper(2, 0, 1) = 3", "paper(2, 0, -1) = 4", "hung(0, 3, 4, 1) = 5", "paper(2, 0, -7) = 6",
            "paper(1, 0, 50) = 7");
        DOC.says("A CHANGE that is PASSED: the SUM of its LINE is MORE by that, within 0 .. 9999 (what it was is not "
            + "known any more).", pass(1), "told(0, 2) = 0", pass(2), "told(0, 2) = 9999", pass(3), "told(0, 2) = 9999",
            pass(4), "told(0, 2) = 9998", pass(5), "told(0, 2) = 9999", lose(6), "told(0, 2) = 9999",
            "told(7, 2) = 50", "told(1, 2) = -60");
        DOC.begin("member(0, 1) = 0", "paper(1, 0, 50) = 0", "paper(2, 0, 1) = 1", "hung(0, 1, 1, 0) = 2",
            "hung(0, 1, 2, 1) = 3", "hung(0, 1, 3, 1) = 4", "hung(0, 1, 4, 0) = 5", "hung(0, 1, 5, 1) = 6");
        DOC.says("Then, as long as there is one, the first (least) HUNG one that is OPEN, and FALLS as told by "
            + "MODE, is FALLEN.", pass(1), states(0, 1, 3, 3, 3, 0, 0));
        DOC.begin("member(0, 1) = 0", "paper(1, 0, 50) = 0", "paper(2, 0, 1) = 1", "paper(2, 0, 1) = 2",
            "paper(6, 10, 1) = 3", "paper(6, 12, 2) = 4", "paper(6, 10, 0) = 5", "paper(4, 0, 1) = 6",
            "paper(6, 10, 6) = 7", "hung(0, 1, 1, 0) = 8", "paper(6, 10, 8) = 9");
        DOC.says("A DEAL for a PAPER that is no more OPEN is PASSED, if that PASSED, else LOST (DEALS that are OPEN, "
            + "behind all that, by numbers).", pass(1), states(0, 1, 0, 1, 0, 0, 0, 0, 3, 2), lose(0),
            states(2, 1, 3, 1, 2, 2, 3, 2, 3, 2), "paper(6, 10, 1) = 10", "paper(6, 10, 2) = 11", "paper(1, 0, 1) = 12",
            "told(10, 3) = 0", pass(12), "told(10, 3) = 1", "told(11, 3) = 2");
        DOC.begin("member(0, 1) = 0", "paper(1, 0, 50) = 0", "paper(2, 0, 1) = 1", "hung(0, 1, 1, 1) = 2",
            "hung(0, 1, 1, 0) = 3", "paper(1, 0, 50) = 4", "paper(2, 0, 1) = 5");
        DOC.says("A CHANGE cannot be put (NO), unless its LINE is OPEN, and (MODE 1) what it hangs ON PASSED; nothing "
            + "can, unless THE RULE of may lets it.", "put(2) = NO", "told(2, 9) = NONE", lose(3), pass(1), pass(2),
            pass(0), "put(5) = NO", "told(5, 3) = 0", "'may k = 2' from 0 = 0", "put(4) = NO",
            "'may 0 - k' from 0 = 1", "put(5) = NO", pass(4));
    }

    private static void rulings() {
        DOC.begin("member(0, 1) = 0", "paper(1, 0, 50) = 0", "paper(1, 0, 9) = 1", "paper(2, 0, 5) = 2",
            "paper(2, 0, 1) = 3", "paper(2, 1, 1) = 4", "hung(1, 1, 2, 1) = 5", "paper(4, 0, 1) = 6",
            "paper(7, 0, 0) = 7", "paper(6, 10, 5) = 8", "paper(4, 1, 1) = 9", "paper(2, 0, 1) = 10",
            "paper(5, 0, 9) = 11", "paper(6, 10, 0) = 12", "hung(0, 3, 2, 1) = 13");
        DOC.says("A RULING on a LINE that is PASSED: the LINE is VOID, and all CHANGES to it that PASSED are VOID (its "
            + "SUM stays), then HUNG ones FALL as told, and its RIDERS (in any state but VOID) are VOID; the RULING "
            + "is PASSED; DEALS as behind PUT.", pass(2), pass(4), lose(10), pass(13), "rule(7) = NO", pass(0),
            states(1, 0, 1, 0, 1, 0, 1, 0, 0, 0, 2, 0, 1, 1), "rule(7) = 4",
            states(4, 0, 4, 0, 1, 3, 4, 1, 2, 0, 2, 0, 1, 4), "told(0, 2) = 58", "rule(7) = NO", "mend(0) = 1",
            "put(0) = 1", "told(6, 3) = 4", "paper(4, 0, 1) = 14", "paper(7, 0, 0) = 15", "rule(15) = 2",
            "told(14, 3) = 4", "told(0, 3) = 4", "told(15, 3) = 1");
        DOC.says("A LINE that is VOID may be MENDED: OPEN again.", "mend(1) = NO", "mend(0) = 1", "told(0, 3) = 0",
            "mend(0) = NO", "told(0, 2) = 58", "told(2, 3) = 4", "told(14, 3) = 4");
        DOC.begin("member(0, 1) = 0", "paper(1, 0, 50) = 0", "paper(2, 0, 1) = 1", "hung(0, 1, 1, 0) = 2",
            "hung(0, 1, 2, 1) = 3", "paper(2, 0, 1) = 4", "hung(0, 1, 4, 1) = 5");
        DOC.says("FALLS WITH a CHANGE: how many HUNG ones would be FALLEN as told, if it were PASSED now (those that "
            + "would be without it, too; all else as it is).", "falls(1) = 2", "falls(2) = 0", "falls(3) = 0",
            "falls(4) = 0", pass(4), "hung(0, 1, 4, 0) = 6", "falls(1) = 3", "falls(5) = 1", "falls(6) = 0",
            states(0, 0, 0, 0, 1, 0, 0));
        DOC.begin("member(0, 1) = 0", "paper(1, 0, 50) = 0", "paper(1, 0, 9) = 1", "paper(2, 0, 1) = 2",
            "paper(2, 1, 1) = 3", "hung(0, 1, 3, 1) = 4", "hung(0, 1, 4, 1) = 5", "hung(0, 1, 4, 0) = 6");
        DOC.says("NEVER: an OPEN CHANGE whose LINE is not OPEN, or that is of MODE 1 and hangs ON one that is LOST, "
            + "FALLEN or VOID, or NEVER.", Document.many(2, 6, "never(#) = 0"), pass(1), "never(2) = 0",
            Document.many(3, 5, "never(#) = 1"), "never(6) = 0", "paper(2, 0, 1) = 7", lose(7),
            "hung(0, 1, 7, 1) = 8", "never(8) = 1", "hung(0, 1, 7, 0) = 9", "never(9) = 0", "hung(0, 1, 8, 1) = 10",
            "never(10) = 1", "never(7) = NO");
    }

    private static void texts() {
        DOC.begin();
        DOC.says("RULES: TEXTS, 12 at most, numbered from 0, each in force from an HOUR on, from THE TAPE (96 bytes at "
            + "most; an act that reads it uses it up, whatever it answers): KEY E.", "'pass y' from 0 = 0",
            "count(15) = 0", "'x' from 0 = -100", "count(15) = 0", "'pass y' = 6", "text(-1) = BAD", "count(15) = 0",
            Document.many(1, 11, "'pass y' from # = #"), "why(0) = 0", "run(60) = 60", "why(0) = 1", "of(11, 1) = 11",
            "'pass y' from 0 = FULL", "count(15) = 0", "'x' from 0 = -100", "feed(0, 0, 0) = 12",
            "feed(0, 0, 0) = 24", "feed(0, 0, 0) = 36", "feed(0, 0, 0) = 48", "feed(0, 0, 0) = 60",
            "feed(0, 0, 0) = 72", "feed(0, 0, 0) = 84", "feed(0, 0, 0) = 96", "feed(0, 0, 0) = FULL",
            "count(15) = 96");
        DOC.begin();
        DOC.says("KEY: pass | may | order | bind.", "'pass 1' from 0 = 0", "'may 1' from 0 = 1", "'order 1' from 0 = 2",
            "'bind 1' from 0 = 3", Document.many(0, 3, "of(#, 0) = #"), Document.each("'# 1' from 0 = -100", "pas",
            "Pass", "passes", "mays", "ord", "orders", "bin", "binds", "k", "1"), "' 1' from 0 = -101");
        DOC.begin("member(0, 1) = 0", "paper(1, 0, 5) = 0");
        DOC.says("E, the loosest first: OR: AND { | AND }; AND: TEST { & TEST }; TEST: SUM [ (< | = | >) SUM ]; SUM: "
            + "TERM { (+ | -) TERM }; TERM: PART { (* | /) PART }; PART: NUMBER (1 to 4 digits) | NAME | ! PART | "
            + "( E ).", worth(0, 1, "1 | 1 & 0"), worth(1, 0, "0 & 0 = 0"), worth(2, 1, "1 < 1 + 1"),
            worth(3, 1, "1 + 1 * 0 = 1"), worth(4, 1, "7 - 2 - 2 = 3"), worth(5, 1, "9 / 2 / 2 = 2"),
            worth(6, 1, "2 * 7 / 4 = 3"), worth(7, 1, "!1 + 1"), worth(8, 1, "! ! 5 = 1"),
            worth(9, 0, "(1 | 1) & 0"), worth(10, 1, "9999 > 9998"), worth(11, 1, "(1 < 2) < 3 | 0"));
        DOC.begin();
        DOC.ask("'pass 1 < 2 < 3' from 0 = -111", "'pass 10000' from 0 = -105", "'pass 1 ! 2' from 0 = -107",
            "'pass 1 | | 2' from 0 = -109");
    }

    /** A TEXT of pass, and whether the LINE 0 would pass by it. */
    private static String[] worth(int number, int passes, String e) {
        return new String[] {"'pass " + e + "' from 0 = " + number, "would(0, 3) = " + passes};
    }

    private static void faults() {
        DOC.begin("member(0, 1) = 0", "member(0, 1) = 1", "member(1, 1) = 2", "member(2, 1) = 3", "paper(1, 0, 5) = 0",
            "paper(2, 0, 1) = 1", "paper(1, 71, 5) = 2", "paper(2, 2, 4) = 3", "hung(2, 4, 3, 0) = 4",
            "paper(5, 2, 60004) = 5", "paper(5, 2, 10009) = 6", "print(0, 0, 0) = 0", "stance(0, 0, 1) = 0",
            "stance(1, 0, -1) = 0");
        DOC.says("NAMES, each one letter: of pass y, n, p (Y, N, P), k KIND; of may k KIND, h the HOUR, c THE CLOCK's "
            + "rest by 60; of order k KIND, v MORE, o the LINE's OFFICE, l its LAND; of bind t a TONGUE, s the SUM in "
            + "it.", "'pass y = 2 & n = 1 & p = 4 & k = 1' from 0 = 0", "would(0, 3) = 1", "would(2, 3) = 0",
            "'may k = 1 & h = 1 & c = 3' from 0 = 1", "put(0) = NO", "run(63) = 63", "put(0) = 1",
            "'order k' from 0 = 2", row(4, 1, 3), "'order v' from 0 = 3", row(3, 4, 1), "'order 0 - o' from 0 = 4",
            row(1, 3, 4), "'order l' from 0 = 5", row(3, 4, 1), "'bind t' from 0 = 6", "line(2, 0) = 4",
            "'bind s' from 0 = 7", "line(2, 0) = 9", "'bind 0 - s' from 0 = 8", "line(2, 0) = 4",
            Document.each("'pass #' from 0 = -105", "h", "v", "o", "l", "t", "s", "a", "yn", "Y"),
            Document.each("'may #' from 0 = -104", "y", "n", "p", "v", "t"),
            Document.each("'order #' from 0 = -106", "y", "h", "c", "s"),
            Document.each("'bind #' from 0 = -105", "k", "v", "p"));
        DOC.begin();
        DOC.says("A word is a row of letters a .. z, or of digits, as long as it goes; any other byte is a sign by "
            + "itself.", "'passy' from 0 = -100", "'pass yy' from 0 = -105", "'pass y#' from 0 = -106",
            "'pass #y' from 0 = -105", "'pass Y' from 0 = -105", "'pass y_n' from 0 = -106", "'pass 12' from 0 = 0",
            "of(0, 2) = 1", "'pass 1 2' from 0 = -107");
        DOC.says("Between words and signs, and at the ends, there may be blanks (byte 32); a word right behind another "
            + "one needs one.", "'  pass  (  y  <  1  )  ' from 0 = 1", "'pass(y<1)' from 0 = 2",
            "'pass!y&!n' from 0 = 3", "'pass1' from 0 = -104", "'pass 1y' from 0 = -106", "'pass y1' from 0 = -106",
            "'pass\ty' from 0 = -104", "'pass y\t' from 0 = -106", "'\tpass y' from 0 = -100",
            "'pass\u00a0y' from 0 = -104");
        DOC.says("FAULT: the first byte of the first word or sign with which no TEXT goes on (a word that needs a "
            + "blank ahead of it, a NUMBER of more than 4 digits, the ninth ( that would be open within others, "
            + "the ninth ! likewise (through ( ), too), each by itself); the end (the place behind the last byte), "
            + "if it comes too soon.",
            "'pass1' from 0 = -104", "'pass 12345' from 0 = -105", "'pass 00001' from 0 = -105",
            "'pass 1234' from 0 = 4", "'pass ((((((((y))))))))' from 0 = 5",
            "'pass (((((((((y' from 0 = -113",
            "'pass !!!!!!!!y' from 0 = 6", "'pass !!!!!!!!!y' from 0 = -113", "'pass !!!!(!!!!(!y' from 0 = -115",
            "'pass !!!!(!!!!(y)) & !y' from 0 = 7", "'pass ((((((((!!!!!!!!y))))))))' from 0 = 8",
            "'pass ((((((((y)))))))) < (((((((((' from 0 = -133",
            "'' from 0 = -100", "'  ' from 0 = -102", "'pass' from 0 = -104", "'pass ' from 0 = -105",
            "'pass (y' from 0 = -107",
            "'pass y +' from 0 = -108", "'pass y + ' from 0 = -109", "'pass y)' from 0 = -106",
            "'pass ()' from 0 = -106",
            "'pass )' from 0 = -105", "'pass & y' from 0 = -105", "'pass y(' from 0 = -106",
            "'pass y n' from 0 = -107", "'pass - 1' from 0 = -105");
    }

    private static String[] row(int... papers) {
        String[] rows = new String[papers.length + 1];
        for (int i = 0; i < papers.length; i++) {
            rows[i] = "row(" + i + ") = " + papers[i];
        }
        rows[papers.length] = "row(" + papers.length + ") = NONE";
        return rows;
    }

    private static void worths() {
        DOC.begin("member(0, 1) = 0", "paper(1, 0, 5) = 0");
        DOC.says("Ints wrap; / is 0 by 0; tests, & | ! give 1 or 0 (what is not 0 is true; both sides are worked out).",
            worth(0, 1, "9999 * 9999 * 22 < 0"), worth(1, 1, "5 / 0 = 0 & 0 / 0 = 0"),
            worth(2, 1, "(3 < 5) + (3 = 3) + (5 > 3) = 3"), worth(3, 0, "(3 > 5) + (3 = 4) + (5 < 3)"),
            worth(4, 1, "(2 & 4) = 1"), worth(5, 1, "(0 | 4) = 1"), worth(6, 1, "!7 = 0 & !0 = 1"),
            worth(7, 1, "0 - 7"), worth(8, 1, "1 | 1 / 0"), worth(9, 0, "0 & 1 / 0"), worth(10, 0, "(0 | 0) + (2 & 0)"),
            worth(11, 0, "5 / (y - y)"));
        DOC.begin();
        DOC.says("Of a KEY that TEXT counts in an HOUR which is in force, with the latest HOUR, of several the "
            + "greatest number.",
            "'order 1' from 2 = 0", "'order 2' from 0 = 1", "'order 3' from 1 = 2", "'order 4' from 1 = 3",
            "'may 1' from 1 = 4", "why(2) = 1",
            "why(1) = NONE", "run(60) = 60", "why(2) = 3", "why(1) = 4", "run(60) = 120", "why(2) = 0",
            "'order 5' from 0 = 5", "why(2) = 0", "'order 5' from 2 = 6", "why(2) = 6");
        DOC.begin("member(0, 1) = 0", "member(1, 1) = 1", "paper(1, 0, 5) = 0", "paper(2, 0, 1) = 1",
            "paper(2, 0, 9) = 2", "paper(5, 0, 60009) = 3", "print(0, 0, 0) = 0", "stance(0, 0, 1) = 0",
            "stance(1, 0, -1) = 0");
        DOC.says("Without a TEXT: pass: y > n; may: 1; order: 0; bind: 0.", row(1, 2), "line(0, 0) = 5",
            "would(0, 3) = 0", "stance(1, 0, 0) = -1", "would(0, 3) = 1", "stance(0, 0, 0) = 1", "would(0, 3) = 0",
            "put(0) = 0");
    }

    private static void rowAndTongues() {
        DOC.begin("member(0, 1) = 0", "paper(1, 0, 5) = 0", "paper(2, 0, 1) = 1", "paper(2, 0, -7) = 2",
            "paper(2, 0, 9) = 3", "hung(0, 1, 3, 0) = 4", "paper(2, 0, 8) = 5");
        DOC.says("THE ROW: all CHANGES (HUNG ones, too) that are OPEN, by E of order, the greater first, of like ones "
            + "the lesser number.", row(1, 2, 3, 4, 5), "'order v' from 0 = 0", row(3, 5, 1, 4, 2),
            "'order 0 - v * v' from 0 = 1", row(1, 4, 2, 5, 3), lose(3), row(1, 4, 2, 5), lose(0), "row(0) = NONE");
        DOC.begin("paper(1, 0, 50) = 0", "paper(5, 0, 20070) = 1", "paper(5, 0, 60070) = 2", "paper(5, 0, 40030) = 3",
            "paper(1, 0, 9) = 4", "paper(5, 4, 69999) = 5", "paper(5, 0, 10050) = 6");
        DOC.says("BINDING SUM of a LINE: of the LINE's own SUM (as TONGUE 0) and those of its TONGUES (OPEN ones), the "
            + "one with the greatest E of bind; of several the LINE's own, then the least number.", "line(0, 0) = 50",
            "'bind s' from 0 = 0", "line(0, 0) = 70", "'bind 0 - s' from 0 = 1", "line(0, 0) = 30",
            "'bind t' from 0 = 2", "line(0, 0) = 70", "'bind t > 0' from 0 = 3", "line(0, 0) = 70",
            "'bind t < 1' from 0 = 4", "line(0, 0) = 50", "'bind t = 4 | t = 6' from 0 = 5", "line(0, 0) = 70",
            "'bind t = 4 | t = 1' from 0 = 6", "line(0, 0) = 30", "line(4, 0) = 9", "'bind 1' from 0 = 7",
            "line(0, 0) = 50", "'bind t = 5' from 0 = 8", "line(0, 0) = 50");
        DOC.says("UNLIKE: the TONGUES of a LINE (OPEN ones) whose SUM is not the LINE's.", "line(0, 1) = 3",
            "line(4, 1) = 1", "paper(5, 4, 9) = 7", "line(4, 1) = 1", "paper(5, 4, 10010) = 8", "line(4, 1) = 2");
    }

    private static void incomes() {
        DOC.begin();
        DOC.says("INCOMES, 8 at most, numbered from 0: LEAST 0 .. 9999 and MOST LEAST .. 9999.", "income(-1, 5) = BAD",
            "income(5, 4) = BAD", "income(0, 10000) = BAD", "income(10000, 10000) = BAD", "income(0, 0) = 0",
            "income(9999, 9999) = 1", Document.many(2, 7, "income(1, 2) = #"), "income(1, 2) = FULL",
            "balance(0) = 10005", "balance(1) = 10011");
        DOC.begin("member(0, 1) = 0", "paper(1, 0, 4) = 0", "paper(1, 11, 3) = 1", "paper(1, 11, 50) = 2",
            "paper(1, 70, 60) = 3", "paper(7, 3, 0) = 4", "paper(4, 0, 700) = 5", "paper(5, 0, 900) = 6",
            "income(5, 10) = 0");
        DOC.says("BALANCE at LEAST (at MOST): all INCOMES at it less SUMS of all LINES that are OPEN or PASSED.",
            "balance(0) = -112", "balance(1) = -107", pass(1), lose(2), pass(3), "balance(0) = -62", "rule(4) = 1",
            "balance(0) = -2", "balance(1) = 3", "mend(3) = 1", "balance(1) = -57");
        DOC.begin("income(0, 100) = 0", "paper(1, 0, 90) = 0", "paper(1, 0, 0) = 1", "paper(2, 0, 5) = 2",
            "paper(2, 1, 5) = 3", "paper(2, 1, -9999) = 4", "hung(1, 1, 4, 1) = 5");
        DOC.says("THE BREAK: in THE ROW, if each were PASSED in it as it stands (SUMS held as told, what hangs ON "
            + "others not looked at), the first CHANGE behind which BALANCE at MOST is below 0 (it may be ahead of "
            + "it, too).", "first() = NONE", "paper(2, 0, 5) = 6", "first() = 6",
            "'order 0 - v' from 0 = 0", row(4, 5, 2, 3, 6), "first() = 3", "paper(1, 0, 100) = 7", "first() = 4",
            "told(0, 2) = 90", "balance(1) = -90");
    }

    private static void books() {
        DOC.begin();
        DOC.says("BOOKS of OFFICES 0 .. 7: rows of ints (sort 0) or floats (1; halves), with 0 to 20 YEARS, or MISSING "
            + "(at first).", Document.many(0, 7, "looks(#, 0) = NOTHING"), "looks(8, 0) = BAD", "book(0, 0, 20) = 20",
            "book(7, 1, 3) = 3", "book(8, 0, 1) = BAD", "book(-1, 0, 1) = BAD", "book(0, 2, 1) = BAD",
            "book(0, 0, 21) = BAD", "book(1, 0, 0) = 0", "looks(1, 0) = INDEX", "looks(0, 19) = 0", "looks(7, 2) = 0");
        DOC.says("A YEAR of floats may be NO NUMBER: it is as the YEAR ahead (again and again).", "note(7, 0, 7) = 1",
            "note(7, 1, NONE) = 1", "note(7, 2, NONE) = 1", "looks(7, 1) = 7", "looks(7, 2) = 7",
            "note(7, 0, NONE) = 1", "looks(7, 2) = KIND", "looks(7, 0) = KIND", "note(7, 0, 9) = 1",
            "looks(7, 2) = 9");
        DOC.says("READ: the number (of floats its halves).", "note(0, 3, -8) = 1", "looks(0, 3) = -8",
            "looks(7, 1) = 9");
        DOC.says("NOT KNOWN of a YEAR: how many OFFICES cannot be READ; THE SPAN: the least, the greatest that can.",
            "span(2, 0) = 6", "span(2, 1) = 0", "span(2, 2) = 9", "span(3, 0) = 7", "span(3, 1) = -8",
            "span(3, 2) = -8", "span(20, 0) = 8", "span(20, 1) = NONE", "span(20, 2) = NONE");
        DOC.says("FINDINGS: NOTHING: a BOOK is MISSING; INDEX: there is no such YEAR; SIZE: a number of YEARS is below "
            + "0; KIND: it is none (of a KIND, a number).", "looks(2, 0) = NOTHING", "looks(7, 3) = INDEX",
            "looks(7, -1) = INDEX", "book(7, 1, -1) = SIZE", "note(0, 0, NONE) = KIND", "note(7, 0, NONE) = 1",
            "looks(7, 1) = KIND", "paper(0, 0, 0) = 0", "put(0) = KIND", "as(0, 1) = KIND", "span(0, 0) = 7");
    }

    private static void wishes() {
        DOC.begin("member(0, 1) = 0", "member(1, 1) = 1", "member(1, 1) = 2", "paper(1, 0, 5) = 0",
            "paper(2, 0, 1) = 1", "paper(1, 0, 7) = 2");
        DOC.says("WISHES: of each PARTY a set of the first 8 LINES (by their numbers, no CHANGES; bits, 0 at "
            + "first): the PARTY votes for the whole, if all it wishes (of LINES that there are) are GIVEN, and it "
            + "wishes one of these at least; SUMS of LINES in whatever state.", "carry(1, 0) = NONE",
            "wish(0, 2) = 0", "carry(1, 0) = 2", "carry(1, 1) = 7", "carry(1, 2) = 1", "wish(0, 6) = 2",
            "carry(1, 0) = 2", "wish(0, 4) = 6", "carry(1, 0) = NONE", "wish(0, 1) = 4", lose(0), "carry(1, 0) = 1",
            "carry(1, 1) = 5", "wish(1, 3) = 0", "carry(2, 0) = 3", "carry(2, 1) = 12", "carry(2, 2) = 3",
            Document.many(3, 8, "paper(1, 0, 0) = #"), "paper(1, 0, 1) = 9", "wish(0, 128) = 1", "carry(1, 0) = 128",
            "carry(1, 1) = 0", "wish(0, 256) = BAD", "wish(0, -1) = BAD");
        DOC.begin("member(0, 1) = 0", "member(1, 1) = 1", "member(2, 1) = 2", "member(2, 1) = 3", "paper(1, 0, 5) = 0",
            "paper(1, 0, 5) = 1", "paper(1, 0, 0) = 2", "paper(1, 0, 10) = 3", "wish(0, 1) = 0", "wish(1, 2) = 0",
            "wish(2, 8) = 0");
        DOC.says("CARRY n: the set of LINES GIVEN for which MEMBERS (IN; in a PAIR, too) of such PARTIES are n or "
            + "more, with the least SUMS together; of several the fewest LINES, then the least as bits.",
            "carry(1, 0) = 1", "carry(1, 1) = 5", "carry(1, 2) = 1", "carry(2, 0) = 8", "carry(2, 1) = 10",
            "carry(2, 2) = 2", "carry(3, 0) = 9", "carry(4, 0) = 11", "carry(4, 1) = 20", "carry(5, 0) = NONE",
            "go(3, 0) = 1", "carry(2, 0) = 3", "carry(3, 0) = 11", "go(3, 1) = 0", "pair(2, 3, 9) = 0",
            "carry(2, 0) = 8");
    }

    private static void shifts() {
        DOC.begin();
        DOC.says("INTERPRETERS, 6 at most, numbered from 0: from which TONGUE to which they speak, and back (none at "
            + "first).", Document.many(0, 5, "interpreter() = #"), "interpreter() = FULL", "speech(0, 2, 1) = 1",
            "heard(1) = 0", "speaks(0, 1, 2) = 1", "heard(1) = 1", "speaks(0, 2, 1) = 1", "speaks(0, 0, 6) = 2",
            "speaks(6, 0, 1) = BAD", "speaks(1, 3, 3) = BAD", "speaks(1, 3, 7) = BAD", "speech(0, 3, 4) = 1",
            "heard(1) = 0");
        DOC.says("HOURS 0 .. 7 of the night: a SPEECH from a TONGUE to another one (NONE at first).", "heard(8) = 0",
            "speech(8, 0, 1) = BAD", "speech(-1, 0, 1) = BAD", "speech(7, 0, 6) = 1", "heard(8) = 1", "heard(7) = 0",
            "speech(0, 0, 7) = BAD", "speech(0, 1, 1) = BAD", "speech(7, NONE, 0) = 1", "heard(8) = 0");
        DOC.begin("interpreter() = 0", "speaks(0, 0, 1) = 1", Document.many(0, 3, "speech(#, 0, 1) = 1"));
        DOC.says("A SHIFT gives each HOUR an INTERPRETER or none, nobody three HOURS one behind the other.",
            "heard(2) = 2", "heard(3) = 2", "heard(4) = 3",
            shift(4, "0", "0", "NONE", "0"), shift(3, "0", "0", "NONE"));
        DOC.says("HEARD: an HOUR with a SPEECH whose INTERPRETER speaks from the one to the other (either way).",
            "speech(0, 1, 0) = 1", "heard(1) = 1", "speech(0, 0, 2) = 1", "heard(1) = 0", "speech(0, NONE, NONE) = 1",
            "heard(1) = 0");
        DOC.begin("interpreter() = 0", "interpreter() = 1", "speaks(0, 0, 1) = 1", "speaks(1, 0, 1) = 1",
            Document.many(0, 3, "speech(#, 0, 1) = 1"), "interpreter() = 2", "speaks(2, 3, 4) = 1");
        DOC.says("THE SHIFT of n HOURS (1 .. 8): that with the most HEARD; of several the first (by HOURS the least "
            + "INTERPRETER, none behind all).", "heard(0) = BAD", "heard(9) = BAD", "heard(3) = 3", "heard(4) = 4",
            "heard(8) = 4", shift(3, "0", "0", "1"), shift(4, "0", "0", "1", "0"),
            shift(8, "0", "0", "1", "0", "0", "1", "0", "0"), "speech(1, 3, 4) = 1", "heard(3) = 3",
            shift(3, "0", "2", "0"));
    }

    private static String[] shift(int n, String... interpreters) {
        String[] rows = new String[interpreters.length];
        for (int h = 0; h < interpreters.length; h++) {
            rows[h] = "shift(" + n + ", " + h + ") = " + interpreters[h];
        }
        return rows;
    }

    private static void offers() {
        DOC.begin();
        DOC.says("OFFERS, 8 at most, numbered from 0: VOTES 1 .. 9, MINUTES 1 .. 99, a PRICE 0 .. 999, AGAINST: "
            + "which may not be taken with it (bits; either way; its own bit counts nothing).",
            "offer(0, 1, 0, 0) = BAD", "offer(10, 1, 0, 0) = BAD", "offer(1, 0, 0, 0) = BAD",
            "offer(1, 100, 0, 0) = BAD", "offer(1, 1, -1, 0) = BAD", "offer(1, 1, 1000, 0) = BAD",
            "offer(1, 1, 0, 256) = BAD", "offer(1, 1, 0, -1) = BAD", "offer(2, 3, 5, 1) = 0", "night(1, 999, 0) = 1",
            "offer(2, 3, 6, 1) = 1", "night(3, 999, 0) = NONE", "offer(2, 3, 7, 0) = 2", "night(3, 999, 0) = 5",
            "night(5, 999, 0) = NONE", "offer(1, 1, 0, 16) = 3", "night(1, 999, 0) = 8", "offer(1, 1, 0, 0) = 4",
            "night(2, 999, 0) = 1", "offer(9, 99, 999, 255) = 5", "night(9, 999, 0) = 32", "night(10, 999, 0) = NONE",
            "offer(1, 1, 1, 0) = 6", "offer(1, 1, 900, 0) = 7", "offer(1, 1, 1, 0) = FULL");
        DOC.begin("offer(3, 10, 5, 0) = 0", "offer(3, 4, 5, 0) = 1", "offer(3, 4, 5, 0) = 2", "offer(6, 9, 11, 0) = 3");
        DOC.says("THE NIGHT to n votes in m MINUTES: the set of OFFERS with n VOTES or more, MINUTES m at most, none "
            + "AGAINST another one, with the least PRICE; of several the fewest MINUTES, then the least as bits.",
            "night(1, 999, 0) = 2", "night(4, 999, 0) = 6", "night(4, 999, 1) = 10", "night(4, 999, 2) = 8",
            "night(4, 7, 0) = NONE", "night(4, 8, 0) = 6", "night(7, 999, 0) = 7", "night(7, 18, 0) = 7",
            "night(7, 17, 0) = 10", "night(7, 17, 1) = 16", "night(7, 17, 2) = 13", "night(16, 999, 0) = NONE",
            "night(15, 27, 0) = 15", "night(15, 26, 0) = NONE");
        DOC.says("ROWS: of each OFFER in it, by numbers, its number, and PRICE of those up to it.", "tell(1) = 1",
            "tell(5) = 2", "tell(3) = 3", "tell(16) = 4", "check(0, 7, 17) = 0", "tell(1) = 1", "tell(5) = 2",
            "tell(3) = 3", "tell(11) = 4", "check(0, 7, 17) = 4");
    }

    private static void images() {
        DOC.begin("keep() = 0", "member(0, 1) = 0", "book(0, 0, 2) = 2", "tell(5) = 1", "'may 1' = 5", "run(7) = 7");
        DOC.says("AN IMAGE keeps all but BOOKS, numbers that wait, THE TAPE; all can become as it is (again and "
            + "again).", "back() = 0", "count(0) = 0", "count(16) = 0", "looks(0, 1) = 0", "count(14) = 1",
            "count(15) = 5", "text(0) = 0", "count(9) = 1", "run(5) = 5", "back() = 0", "count(16) = 0",
            "count(9) = 0", "looks(0, 1) = 0", "count(15) = 0");
        DOC.begin("member(0, 1) = 0", "member(0, 1) = 1", "member(0, 1) = 2", "go(2, 0) = 1", "train(0, 15) = NONE",
            "train(2, 12) = NONE", "paper(0, 0, 0) = 0", "print(0, 0, 10) = 1", "print(0, 1, 11) = 2",
            "print(0, 2, 30) = 3", "run(1) = 1", "keep() = 1", "go(1, 0) = 1", "print(0, 3, 90) = 4",
            "train(1, 11) = NONE");
        DOC.says("THE NIGHT TOLD: how many MEMBERS are IN, and how many SHEETS are on their way, behind each of n "
            + "times 10 MINUTES from THE IMAGE on (nobody doing anything).",
            Document.each("tell(#) = 1", "2"), "tell(1) = 2", "tell(1) = 3", "tell(1) = 4", "tell(1) = 5",
            "tell(0) = 6", "check(1, 3, 0) = 0", "count(0) = 3", "count(1) = 1", "count(10) = 4", "count(16) = 1");
    }
}
