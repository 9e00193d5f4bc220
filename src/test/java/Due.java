/** Counts answers that are not the ones that are due, and tells of them. */
final class Due {
    private static final int SHOWN = 40;

    private final String test;
    private String where = "";
    private int asked;
    private int wrong;

    Due(String test) {
        this.test = test;
    }

    void promise(int number) {
        where = "promise " + number + ": ";
    }

    /** What is asked from here on holds by a sentence of the document. */
    void sentence(String place, String words) {
        where = place + ", \"" + words + "\": ";
    }

    void is(String call, int got, int want) {
        asked++;
        if (got != want) {
            tell(where + call + " answered " + got + ", due is " + want);
        }
    }

    void holds(String what, boolean held) {
        asked++;
        if (!held) {
            tell(what);
        }
    }

    void tell(String what) {
        wrong++;
        if (wrong <= SHOWN) {
            System.out.println(test + ": " + what);
        }
    }

    boolean isWrong() {
        return wrong > 0;
    }

    void end() {
        System.out.println(test + ": " + asked + " answers asked for, " + wrong + " not as due");
        if (wrong > 0 || asked == 0) {
            System.exit(1);
        }
    }
}
