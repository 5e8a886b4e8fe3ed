import java.util.Random;

/** Runs of calls, drawn by fixed seeds, on the class and on the model: all answers are the same. */
public final class ModelTest {
    private static final int RUNS = 1000;
    private static final int CALLS = 512;
    private static final int CALLS_TO_COMPARE_ALL = 74;

    private final Due due = new Due("ModelTest");
    private final Random random = new Random(20261118);
    private UnderLadders x;
    private Model model;
    private String run;
    private int calls;

    public static void main(String[] args) {
        ModelTest test = new ModelTest();
        for (int i = 0; i < RUNS && !test.due.hasFailed(); i++) {
            test.oneRun(i);
        }
        test.due.end();
    }

    private void oneRun(int number) {
        x = new UnderLadders();
        model = new Model();
        run = "run " + number + " ";
        calls = 0;
        while (calls < CALLS - CALLS_TO_COMPARE_ALL && !due.hasFailed()) {
            if (calls == 0 || random.nextInt(150) == 0) {
                tellMarket();
                if (random.nextInt(8) == 0) {
                    giveMuch();
                }
            }
            oneCall();
        }
        compareAll();
    }

    private void tellMarket() {
        String text = drawText();
        same("wipe", x.wipe(), model.wipe());
        for (int i = 0; i < text.length(); i++) {
            same("write", x.write(text.charAt(i)), model.write(text.charAt(i)));
        }
        same("fault of " + text, x.fault(), model.fault());
        same("market " + text, x.market(), model.market());
    }

    /** So that some runs come to where luck is full. */
    private void giveMuch() {
        for (int i = 0; i < 55; i++) {
            same("give much", x.give(i % 5, 9), model.give(i % 5, 9));
        }
    }

    private String drawText() {
        StringBuilder text = new StringBuilder("M");
        int ladders = random.nextInt(5);
        int people = random.nextInt(6);
        int told = 0;
        while (ladders + people > 0) {
            if (random.nextInt(ladders + people) < ladders) {
                int place = random.nextInt(10);
                while ((told >> place & 1) == 1) {
                    place = random.nextInt(10);
                }
                told |= 1 << place;
                text.append('L').append(place).append(1 + random.nextInt(9)).append(random.nextInt(4));
                ladders--;
            } else {
                int home = random.nextInt(10);
                int work = (home + 1 + random.nextInt(9)) % 10;
                text.append('P').append(home).append(work).append(random.nextInt(10)).append(random.nextInt(4));
                people--;
            }
        }
        return random.nextInt(3) == 0 ? spoil(text) : text.toString();
    }

    private String spoil(StringBuilder text) {
        String letters = "ML0123456789P/:";
        int index = random.nextInt(text.length());
        switch (random.nextInt(5)) {
            case 0: text.setLength(index); break;
            case 3: text.append('L').append(random.nextInt(10)).append(random.nextInt(10)).append(0); break;
            case 1: text.setCharAt(index, letters.charAt(random.nextInt(letters.length()))); break;
            case 2: text.setCharAt(index, (char) random.nextInt(256)); break;
            default: text.append(letters.charAt(random.nextInt(letters.length())));
        }
        return text.toString();
    }

    /** Mostly within, now and then a little or far outside. */
    private int draw(int from, int to) {
        switch (random.nextInt(30)) {
            case 0: return from - 1;
            case 1: return to + 1;
            case 2: return random.nextInt();
            default: return from + random.nextInt(to - from + 1);
        }
    }

    private long drawRow(int n) {
        if (random.nextInt(20) == 0) {
            return random.nextLong();
        }
        long row = 0;
        for (int i = 0; i < n; i++) {
            row = row * 1000 + drawDoing();
        }
        return row;
    }

    private int drawDoing() {
        switch (random.nextInt(6)) {
            case 0: return 0;
            case 1: return 100 + 10 * random.nextInt(4) + random.nextInt(10);
            case 2: return 200 + random.nextInt(4);
            case 3: return 300 + 10 * random.nextInt(5) + random.nextInt(10);
            case 4: return 400 + 10 * random.nextInt(5) + random.nextInt(10);
            default: return random.nextInt(1000);
        }
    }

    private void oneCall() {
        if (random.nextInt(3) == 0) {
            change();
        } else {
            ask();
        }
    }

    private void change() {
        int a = draw(0, 4);
        int b = draw(0, 9);
        switch (random.nextInt(16)) {
            case 0: case 1: case 2: case 3: same("day", x.day(), model.day()); break;
            case 4: case 5: same("move " + a + " " + b, x.move(a, b), model.move(a, b)); break;
            case 6: same("down " + a, x.down(a), model.down(a)); break;
            case 7: case 8: case 9: case 10: same("give " + a + " " + b, x.give(a, b), model.give(a, b)); break;
            case 11: case 12: same("undo", x.undo(), model.undo()); break;
            case 13: drawSeen(); break;
            case 14: slotCall(draw(0, 1)); break;
            default:
                long v = random.nextLong();
                same("seed " + v, x.seed(v), model.seed(v));
        }
        if (random.nextInt(8) == 0) {
            compareAll();
        }
    }

    private void drawSeen() {
        if (random.nextInt(4) == 0) {
            same("unsee", x.unsee(), model.unsee());
            return;
        }
        int a = draw(0, 20);
        int kind = random.nextInt(4);
        int left = a - Model.takes(kind, 1 + random.nextInt(3), a);
        int b = random.nextInt(6) == 0 ? draw(0, 20) : left;
        same("see " + a + " " + b, x.see(a, b), model.see(a, b));
    }

    private void slotCall(int slot) {
        if (random.nextBoolean()) {
            same("keep " + slot, x.keep(slot), model.keep(slot));
        } else {
            same("again " + slot, x.again(slot), model.again(slot));
        }
    }

    private void ask() {
        int a = draw(0, 3);
        int b = draw(0, 4);
        int what = draw(0, 1);
        boolean upper = random.nextBoolean();
        switch (random.nextInt(14)) {
            case 0: askOne("luck", b, draw(0, 20)); break;
            case 1: askOne("gold", a, draw(0, 20)); break;
            case 2: same("lost " + b, x.lost(b), model.lost(b)); break;
            case 3: same("spot " + a + " " + what, x.spot(a, what), model.spot(a, what)); break;
            case 4: same("round " + b + " " + what, x.round(b, what), model.round(b, what)); break;
            case 5: case 6: askJudge(draw(1, 4)); break;
            case 7: same("may " + what, x.may(what), model.may(what)); break;
            case 8: same("share " + b + " " + a, x.share(b, a, upper), model.share(b, a, upper)); break;
            case 9: askRests(a, draw(0, 3), what); break;
            case 10: askStays(a, random.nextInt(4) == 0 ? draw(0, 60) : draw(0, 8), draw(0, 10), upper); break;
            case 11: askYears(draw(1, 30)); break;
            case 12: askOne("ladder", a, draw(0, 4)); break;
            default: askOne("person", b, draw(0, 5));
        }
    }

    private void askOne(String name, int a, int b) {
        switch (name) {
            case "luck": same(name + " " + a + " " + b, x.luck(a, b), model.luck(a, b)); break;
            case "gold": same(name + " " + a + " " + b, x.gold(a, b), model.gold(a, b)); break;
            case "ladder": same(name + " " + a + " " + b, x.ladder(a, b), model.ladder(a, b)); break;
            default: same(name + " " + a + " " + b, x.person(a, b), model.person(a, b));
        }
    }

    private void askJudge(int n) {
        long row = drawRow(n >= 1 && n <= 4 ? n : 1);
        same("judge " + n + " " + row, x.judge(n, row), model.judge(n, row));
    }

    private void askRests(int one, int other, int what) {
        same("rests " + one + " " + other + " " + what, x.rests(one, other, what), model.rests(one, other, what));
    }

    private void askStays(int a, int m, int chance, boolean upper) {
        same("stays " + a + " " + m + " " + chance + " " + upper,
                x.stays(a, m, chance, upper), model.stays(a, m, chance, upper));
    }

    private void askYears(int m) {
        same("years " + m, x.years(m), model.years(m));
    }

    private void compareAll() {
        for (int what = -1; what <= 10; what++) {
            same("count " + what, x.count(what), model.count(what));
        }
        for (int place = -1; place <= 10; place++) {
            same("at " + place, x.at(place), model.at(place));
        }
        for (int i = 0; i < 4; i++) {
            for (int what = 0; what < 5; what++) {
                askOne("ladder", i, what);
            }
        }
        for (int i = 0; i < 5; i++) {
            for (int what = 0; what < 6; what++) {
                askOne("person", i, what);
            }
        }
    }

    /** What an object answers behind its 512th call is free. */
    private void same(String call, long got, long want) {
        calls++;
        if (calls <= CALLS) {
            due.is(run + call, got, want);
        }
    }
}
