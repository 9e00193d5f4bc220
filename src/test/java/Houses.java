import java.util.ArrayList;
import java.util.Arrays;
import java.util.Collections;
import java.util.List;

/** The calls that make some houses, each with what it answers. */
final class Houses {
    private Houses() {
    }

    /**
     * A house with something of everything, and nothing full, in MINUTE 8, its image of MINUTE 5. MEMBERS 0 .. 5, of
     * PARTIES 0, 1, 2, 8, 3, 4, the last one AWAY; PAIR 0 holds (3 and 4), PAIR 1 does not. PAPERS: 0 a PAPER; 1 a
     * LINE (OPEN) with CHANGES 2 (OPEN) and 19 (LOST), HUNG ones 3, 4, 20, a RIDER 5, a TONGUE 6, a DEAL 7 (for 2),
     * a RULING 8; 9 a LINE (PASSED) with a RIDER 10 (PASSED), CHANGES 11 (PASSED) and 18 (OPEN), a RULING 12, a DEAL
     * 17 (PASSED); 13 a LINE (LOST) with a CHANGE 14 (FALLEN); 15 a LINE (VOID by 16). 2 numbers wait, 3 bytes are
     * on the tape.
     */
    static final List<String> RICH = list(members(), papers(), votes(), texts(), rest(), behindTheImage(), waiting());

    /** The same, and no numbers wait. */
    static final List<String> RICH_NONE_WAIT = list(members(), papers(), votes(), texts(), rest(), behindTheImage(),
        onTape());

    /** The same, and nothing is on the tape. */
    static final List<String> RICH_NO_TAPE = list(RICH.toArray(new String[0]), new String[] {"trim(0) = 0"});

    static final List<String> EMPTY = Collections.emptyList();

    /** In the last MINUTE: two MEMBERS, a PAPER, a SHEET that never comes. */
    static final List<String> LAST_MINUTE = list(new String[] {"member(0, 1) = 0", "member(1, 1) = 1",
        "member(2, 1) = 2", "paper(1, 0, 5) = 0", "pair(0, 1, 9999) = 0", "train(2, 9998) = NONE"}, minutes(9980),
        new String[] {"print(0, 0, 50) = 1", "run(19) = 9999"});

    /** As much as there may be of everything: no call that adds something is taken any more. */
    static final List<String> FULL = list(fullMembers(), fullPapers(), fullTexts(), fullRest());

    private static List<String> list(String[]... parts) {
        List<String> all = new ArrayList<>();
        for (String[] part : parts) {
            all.addAll(Arrays.asList(part));
        }
        return Collections.unmodifiableList(all);
    }

    /** The calls that bring a house to a MINUTE above 9600. */
    static String[] minutes(int minute) {
        List<String> all = new ArrayList<>();
        for (int i = 1; i <= 40; i++) {
            all.add("run(240) = " + 240 * i);
        }
        all.add("run(" + (minute - 9600) / 2 + ") = " + (9600 + (minute - 9600) / 2));
        all.add("run(" + (minute - 9600 - (minute - 9600) / 2) + ") = " + minute);
        return all.toArray(new String[0]);
    }

    /** The calls without what they answer. */
    static List<String> calls(List<String> rows) {
        List<String> all = new ArrayList<>();
        for (String row : rows) {
            all.add(Calls.callOf(row));
        }
        return all;
    }

    private static String[] members() {
        return new String[] {"member(0, 1) = 0", "member(1, 3) = 1", "member(2, 127) = 2", "member(8, 0) = 3",
            "member(3, 1) = 4", "member(4, 64) = 5"};
    }

    private static String[] papers() {
        return new String[] {"paper(0, 0, 0) = 0", "paper(1, 12, 50) = 1", "paper(2, 1, 20) = 2",
            "hung(1, -60, 2, 0) = 3", "hung(1, 9, 2, 1) = 4", "paper(4, 1, 7) = 5", "paper(5, 1, 20051) = 6",
            "paper(6, 21, 2) = 7", "paper(7, 1, 0) = 8", "paper(1, 70, 30) = 9", "paper(4, 9, 5) = 10",
            "paper(2, 9, 5) = 11", "paper(7, 9, 0) = 12", "paper(1, 73, 8) = 13", "paper(2, 13, 1) = 14",
            "paper(1, 0, 4) = 15", "paper(7, 15, 0) = 16", "paper(6, 12, 9) = 17", "paper(2, 9, 1) = 18",
            "paper(2, 1, 3) = 19", "hung(1, 2, 4, 1) = 20"};
    }

    private static String[] votes() {
        return new String[] {"print(11, 0, 0) = 0", "stance(0, 11, 5) = 0", "put(11) = 1", "print(9, 0, 0) = 0",
            "stance(0, 9, 5) = 0", "put(9) = 1", "print(13, 0, 0) = 0", "stance(0, 13, -1) = 0", "put(13) = 0",
            "print(15, 0, 0) = 0", "stance(0, 15, 1) = 0", "put(15) = 1", "rule(16) = 1", "print(19, 0, 0) = 0",
            "stance(1, 19, -9) = 0", "put(19) = 0", "pair(3, 4, 90) = 0", "pair(0, 1, 60) = 1", "breaks(1) = 1",
            "train(1, 200) = NONE", "train(4, 6) = NONE", "print(1, 1, 0) = 0", "stance(1, 1, 4) = 0"};
    }

    private static String[] texts() {
        return new String[] {"'pass y > n' from 0 = 0", "'order v' from 0 = 1", "'bind s' from 0 = 2",
            "'may k < 3 | h < 2' from 0 = 3", "'pass 0' from 1 = 4"};
    }

    private static String[] rest() {
        return new String[] {"income(10, 200) = 0", "income(0, 5) = 1", "book(0, 0, 3) = 3", "note(0, 1, -70) = 1",
            "book(1, 1, 4) = 4", "note(1, 0, NONE) = 1", "note(1, 1, 9) = 1", "note(1, 2, NONE) = 1",
            "book(2, 0, 0) = 0", "wish(0, 1) = 0", "wish(1, 2) = 0", "interpreter() = 0", "interpreter() = 1",
            "speaks(0, 1, 2) = 1", "speaks(1, 2, 3) = 1", "speech(0, 1, 2) = 1", "speech(1, 2, 1) = 1",
            "speech(7, 0, 6) = 1", "offer(3, 10, 50, 0) = 0", "offer(2, 5, 20, 1) = 1", "offer(4, 9, 45, 0) = 2",
            "run(5) = 5", "print(2, 1, 5) = 1", "print(0, 6, 99) = 2", "print(1, 2, 2) = 3", "keep() = 5"};
    }

    private static String[] behindTheImage() {
        return new String[] {"run(2) = 7", "go(4, 1) = 0", "go(5, 0) = 1", "clock(1) = 0", "run(1) = 8",
            "stance(3, 1, -2) = 0", "wish(1, 6) = 2", "speech(2, 2, 1) = 1", "speaks(0, 0, 6) = 2",
            "train(2, 300) = NONE"};
    }

    private static String[] waiting() {
        return new String[] {"'may' = 3", "tell(3) = 1", "tell(-4) = 2"};
    }

    private static String[] onTape() {
        return new String[] {"'may' = 3"};
    }

    private static String[] fullMembers() {
        List<String> all = new ArrayList<>();
        for (int m = 0; m < 20; m++) {
            all.add("member(" + m % 9 + ", 1) = " + m);
        }
        for (int p = 0; p < 10; p++) {
            all.add("pair(" + (p + 1) % 4 * 2 + ", 19, 9) = " + p);
            all.add("breaks(" + p + ") = 1");
        }
        return all.toArray(new String[0]);
    }

    private static String[] fullPapers() {
        List<String> all = new ArrayList<>();
        for (int p = 0; p < 9; p++) {
            all.add("paper(1, 0, " + (10 + p) + ") = " + p);
        }
        for (int p = 9; p < 40; p++) {
            all.add("paper(2, " + p % 9 + ", " + p + ") = " + p);
        }
        for (int i = 0; i < 30; i++) {
            all.add("print(" + (10 + i) + ", " + i % 7 + ", " + (1 + i) + ") = " + (1 + i));
        }
        return all.toArray(new String[0]);
    }

    private static String[] fullTexts() {
        List<String> all = new ArrayList<>();
        for (int t = 0; t < 12; t++) {
            all.add("'order " + t + "' from " + t + " = " + t);
        }
        return all.toArray(new String[0]);
    }

    private static String[] fullRest() {
        List<String> all = new ArrayList<>();
        for (int i = 0; i < 8; i++) {
            all.add("income(" + i + ", 20) = " + i);
            all.add("offer(1, 1, " + i + ", 0) = " + i);
        }
        for (int i = 0; i < 6; i++) {
            all.add("interpreter() = " + i);
        }
        for (int i = 1; i <= 60; i++) {
            all.add("tell(" + i + ") = " + i);
        }
        for (int i = 1; i <= 8; i++) {
            all.add("feed(1885434739, 544811571, 1047538226) = " + 12 * i);
        }
        return all.toArray(new String[0]);
    }
}
