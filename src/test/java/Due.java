/** Counts the answers that are not as due, and ends a test by them. */
final class Due {
    static final int BEYOND = -1;
    static final int MISSING = -2;
    static final int SIZE = -3;
    static final int KIND = -4;
    static final int FULL = -5;
    static final int NONE = -6;
    static final int TAKEN = -7;
    static final int LONG = -8;
    static final int ABSENT = -100;

    private int asked = 0;
    private int wrong = 0;

    void is(String call, long got, long want) {
        asked++;
        if (got != want) {
            wrong++;
            System.out.println(call + " answered " + got + ", due is " + want);
        }
    }

    void holds(String what, boolean so) {
        asked++;
        if (!so) {
            wrong++;
            System.out.println(what);
        }
    }

    int wrong() {
        return wrong;
    }

    void end() {
        System.out.println(asked + " asked, " + wrong + " wrong");
        if (wrong != 0 || asked == 0) {
            System.exit(1);
        }
    }
}
