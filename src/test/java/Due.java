/** Counts and prints answers that are not the due ones; shared by the tests. */
final class Due {
    private final String test;
    private int calls;
    private int wrong;

    Due(String test) {
        this.test = test;
    }

    void is(String call, long got, long want) {
        calls++;
        if (got != want) {
            wrong++;
            System.out.println(test + ": " + call + " answered " + got + ", due is " + want);
        }
    }

    boolean hasFailed() {
        return wrong > 0;
    }

    void end() {
        System.out.println(test + ": " + calls + " answers, " + wrong + " wrong");
        if (wrong > 0) {
            System.exit(1);
        }
    }

    static void write(UnderLadders x, String text) {
        x.wipe();
        for (int i = 0; i < text.length(); i++) {
            x.write(text.charAt(i));
        }
    }

    static UnderLadders market(String text) {
        UnderLadders x = new UnderLadders();
        write(x, text);
        x.market();
        return x;
    }
}
