/** Counts and prints answers that are not the due ones; shared by the tests. */
final class Due {
    static final int UNKNOWN = -1, OUTSIDE = -2, STATE = -3, FULL = -4, NONE = -9;

    private final String test;
    private String part = "";
    private int calls;
    private int wrong;

    Due(String test) {
        this.test = test;
    }

    /** What follows belongs to this part of the test. */
    void within(String name) {
        part = name.isEmpty() ? "" : name + ": ";
    }

    void is(String call, long got, long want) {
        calls++;
        if (got != want) {
            wrong++;
            System.out.println(test + ": " + part + call + " answered " + got + ", due is " + want);
        }
    }

    void yes(String what, boolean holds) {
        is(what, holds ? 1 : 0, 1);
    }

    /** A fraction, told above and below. */
    void fraction(String call, long gotAbove, long gotBelow, long above, long below) {
        is(call + ", above", gotAbove, above);
        is(call + ", below", gotBelow, below);
    }

    boolean hasFailed() {
        return wrong > 0;
    }

    void end() {
        System.out.println(test + ": " + calls + " answers, " + wrong + " wrong");
        if (wrong > 0) {
            System.exit(1);
        }
    }

    static void write(UnderLadders x, String text) {
        x.wipe();
        append(x, text);
    }

    static void append(UnderLadders x, String text) {
        for (int i = 0; i < text.length(); i++) {
            x.write(text.charAt(i));
        }
    }

    static UnderLadders market(String text) {
        UnderLadders x = new UnderLadders();
        write(x, text);
        x.market();
        return x;
    }

    static int faultOf(String text) {
        UnderLadders x = new UnderLadders();
        write(x, text);
        return x.fault();
    }

    static void days(UnderLadders x, int n) {
        for (int i = 0; i < n; i++) {
            x.day();
        }
    }

    /** Gives a person so much luck in all, 9 at a time. */
    static void giveInAll(UnderLadders x, int person, int n) {
        int left = n;
        while (left > 0) {
            x.give(person, Math.min(9, left));
            left -= 9;
        }
    }
}
