import java.util.ArrayList;
import java.util.List;
import java.util.function.ToLongFunction;

/** What is refused changes nothing, of all calls: a twin that was never asked answers the same from then on. */
final class RefusedEdges {
    private static final int UNKNOWN = Due.UNKNOWN, OUTSIDE = Due.OUTSIDE, STATE = Due.STATE, FULL = Due.FULL,
            NONE = Due.NONE;
    private static final int LEAST = Integer.MIN_VALUE, MOST = Integer.MAX_VALUE;
    private static final String MARKET = "ML490L610L823L732P3592P5671P9053P8740P0982";

    private record Call(String told, ToLongFunction<UnderLadders> ask, long due) {
    }

    private RefusedEdges() {
    }

    /** All that there may be: 48 letters, 14 acts (more were), 6 seen, slot 0 kept, a seed. */
    private static UnderLadders full() {
        UnderLadders x = Due.market(MARKET);
        Due.append(x, "PPPPPP");
        for (int i = 0; i < 6; i++) {
            x.see(9, 5);
        }
        x.seed(20261118);
        Due.days(x, 3);
        x.keep(0);
        for (int i = 0; i < 4; i++) {
            x.give(i, 9);
            x.move(i, i == 2 ? 5 : i);
            x.day();
        }
        x.down(1);
        x.give(4, 7);
        return x;
    }

    /** The same, gone on from slot 0: no act is there. */
    private static UnderLadders goneOn() {
        UnderLadders x = full();
        x.again(0);
        return x;
    }

    /** Every answer that tells what an object holds; its acts are undone for it, and its slots gone on from. */
    private static List<Long> pictureOf(UnderLadders x) {
        List<Long> picture = new ArrayList<>();
        for (int ladder = 0; ladder < 4; ladder++) {
            for (int what = 0; what <= 4; what++) {
                picture.add((long) x.ladder(ladder, what));
            }
        }
        for (int person = 0; person < 5; person++) {
            for (int what = 0; what <= 5; what++) {
                picture.add((long) x.person(person, what));
            }
        }
        for (int place = 0; place <= 9; place++) {
            picture.add((long) x.at(place));
        }
        addCounts(picture, x, 0);
        picture.add((long) x.fault());
        picture.add((long) x.may(0));
        picture.add((long) x.may(1));
        int acts = x.count(8);
        for (int i = 0; i < acts; i++) {
            picture.add((long) x.undo());
            addCounts(picture, x, 3);
        }
        for (int slot = 0; slot <= 1; slot++) {
            picture.add((long) x.again(slot));
            addCounts(picture, x, 3);
        }
        picture.add(x.seed(0));
        picture.add((long) x.market());
        return picture;
    }

    private static void addCounts(List<Long> picture, UnderLadders x, int from) {
        for (int what = from; what <= 9; what++) {
            picture.add((long) x.count(what));
        }
        picture.add((long) x.at(0));
        picture.add((long) x.at(4));
    }

    private static void refusedByFull(Due due, Call... calls) {
        List<Long> untouched = pictureOf(full());
        for (Call call : calls) {
            UnderLadders x = full();
            due.is(call.told, call.ask.applyAsLong(x), call.due);
            due.yes(call.told + " changes nothing", untouched.equals(pictureOf(x)));
        }
    }

    @Edge(promise = {6, 7, 30}, says = "What is refused changes nothing.")
    static void theTestItselfSeesEveryChange(Due due) {
        List<Long> untouched = pictureOf(full());
        List<ToLongFunction<UnderLadders>> changes = List.of(UnderLadders::wipe, UnderLadders::day,
                x -> x.move(0, 9), x -> x.down(0), x -> x.give(0, 1), UnderLadders::undo, UnderLadders::unsee,
                x -> x.seed(1), x -> x.years(1), x -> x.keep(0), x -> x.keep(1), x -> x.again(0));
        for (int i = 0; i < changes.size(); i++) {
            UnderLadders x = full();
            due.yes("change " + i + " is taken", changes.get(i).applyAsLong(x) != UNKNOWN);
            due.yes("change " + i + " is seen", !untouched.equals(pictureOf(x)));
        }
        due.yes("a twin is like the other", untouched.equals(pictureOf(full())));
    }

    @Edge(promise = 2, says = "What is refused changes nothing.")
    static void write(Due due) {
        refusedByFull(due,
                new Call("a letter too many", x -> x.write('M'), FULL),
                new Call("letter -1", x -> x.write(-1), OUTSIDE),
                new Call("letter 256", x -> x.write(256), OUTSIDE));
    }

    @Edge(promise = 5, says = "What is refused changes nothing.")
    static void market(Due due) {
        refusedByFull(due, new Call("a fault", UnderLadders::market, STATE));
    }

    @Edge(promise = {6, 7, 8, 30}, says = "What is refused changes nothing.")
    static void questionsOfTheMarket(Due due) {
        refusedByFull(due,
                new Call("ladder 4", x -> x.ladder(4, 0), UNKNOWN),
                new Call("what of a ladder", x -> x.ladder(0, 5), OUTSIDE),
                new Call("person 5", x -> x.person(5, 0), UNKNOWN),
                new Call("what of a person", x -> x.person(0, 6), OUTSIDE),
                new Call("place 10", x -> x.at(10), UNKNOWN),
                new Call("what of counts", x -> x.count(10), OUTSIDE));
    }

    @Edge(promise = 10, says = "What is refused changes nothing.")
    static void move(Due due) {
        refusedByFull(due,
                new Call("ladder -1", x -> x.move(-1, 9), UNKNOWN),
                new Call("ladder 4", x -> x.move(4, 9), UNKNOWN),
                new Call("place -1", x -> x.move(0, -1), UNKNOWN),
                new Call("place 10", x -> x.move(0, 10), UNKNOWN),
                new Call("greatest ints", x -> x.move(MOST, MOST), UNKNOWN),
                new Call("its own place", x -> x.move(0, 0), STATE),
                new Call("another one's place", x -> x.move(0, 1), STATE));
    }

    @Edge(promise = {11, 12}, says = "What is refused changes nothing.")
    static void downAndGive(Due due) {
        refusedByFull(due,
                new Call("down -1", x -> x.down(-1), UNKNOWN),
                new Call("down 4", x -> x.down(4), UNKNOWN),
                new Call("give to -1", x -> x.give(-1, 1), UNKNOWN),
                new Call("give to 5", x -> x.give(5, 1), UNKNOWN),
                new Call("give 0", x -> x.give(0, 0), OUTSIDE),
                new Call("give 10", x -> x.give(0, 10), OUTSIDE),
                new Call("give the least int", x -> x.give(0, LEAST), OUTSIDE));
    }

    @Edge(promise = 13, says = "What is refused changes nothing.")
    static void undo(Due due) {
        UnderLadders x = goneOn();
        due.is("no act", x.undo(), STATE);
        due.yes("nothing is changed", pictureOf(x).equals(pictureOf(goneOn())));
        UnderLadders none = new UnderLadders();
        due.is("nothing at all", none.undo(), STATE);
        due.yes("nothing is there", pictureOf(none).equals(pictureOf(new UnderLadders())));
    }

    @Edge(promise = {14, 15, 16, 17, 18, 19}, says = "What is refused changes nothing.")
    static void daysToComeAndPlaces(Due due) {
        refusedByFull(due,
                new Call("luck of 5", x -> x.luck(5, 0), UNKNOWN),
                new Call("luck in 21", x -> x.luck(0, 21), OUTSIDE),
                new Call("gold of 4", x -> x.gold(4, 0), UNKNOWN),
                new Call("gold in -1", x -> x.gold(0, -1), OUTSIDE),
                new Call("lost of 5", x -> x.lost(5), UNKNOWN),
                new Call("spot of 4", x -> x.spot(4, 0), UNKNOWN),
                new Call("spot, what 2", x -> x.spot(0, 2), OUTSIDE),
                new Call("round of 5", x -> x.round(5, 0), UNKNOWN),
                new Call("round, what 2", x -> x.round(0, 2), OUTSIDE),
                new Call("judge 0", x -> x.judge(0, 0), OUTSIDE),
                new Call("judge 5", x -> x.judge(5, 0), OUTSIDE),
                new Call("judge a row below 0", x -> x.judge(1, -1), OUTSIDE),
                new Call("judge a row too long", x -> x.judge(1, 1000), OUTSIDE));
    }

    @Edge(promise = {20, 22}, says = "What is refused changes nothing.")
    static void seen(Due due) {
        refusedByFull(due,
                new Call("a seventh", x -> x.see(9, 0), FULL),
                new Call("a 21", x -> x.see(21, 0), OUTSIDE),
                new Call("b above a", x -> x.see(9, 10), OUTSIDE),
                new Call("may, what 2", x -> x.may(2), OUTSIDE));
    }

    @Edge(promise = {23, 24, 25, 27}, says = "What is refused changes nothing.")
    static void sharesRestsAndChances(Due due) {
        refusedByFull(due,
                new Call("share of person 5", x -> x.share(5, 0, true), UNKNOWN),
                new Call("share for ladder 4", x -> x.share(0, 4, false), UNKNOWN),
                new Call("rests of 4", x -> x.rests(0, 4, 0), UNKNOWN),
                new Call("rests of one alone", x -> x.rests(0, 0, 0), OUTSIDE),
                new Call("rests, what 2", x -> x.rests(0, 1, 2), OUTSIDE),
                new Call("stays for 4", x -> x.stays(4, 0, 0, true), UNKNOWN),
                new Call("stays, m 61", x -> x.stays(0, 61, 0, true), OUTSIDE),
                new Call("stays, x 11", x -> x.stays(0, 0, 11, true), OUTSIDE),
                new Call("years 0", x -> x.years(0), OUTSIDE),
                new Call("years 31", x -> x.years(31), OUTSIDE));
    }

    @Edge(promise = {28, 29}, says = "What is refused changes nothing.")
    static void keepAndAgain(Due due) {
        refusedByFull(due,
                new Call("keep in -1", x -> x.keep(-1), UNKNOWN),
                new Call("keep in 2", x -> x.keep(2), UNKNOWN),
                new Call("again from -1", x -> x.again(-1), UNKNOWN),
                new Call("again from 2", x -> x.again(2), UNKNOWN),
                new Call("again from where none were kept", x -> x.again(1), STATE));
    }

    /** Questions that are answered, with the greatest numbers there are: they change nothing either. */
    @Edge(promise = {14, 15, 16, 17, 18, 19, 22, 23, 24, 25}, says = "In what follows nothing is changed.")
    static void answeredQuestionsChangeNothing(Due due) {
        List<Long> untouched = pictureOf(full());
        List<ToLongFunction<UnderLadders>> questions = List.of(
                x -> x.luck(4, 20), x -> x.gold(3, 20), x -> x.lost(4), x -> x.spot(3, 0), x -> x.spot(3, 1),
                x -> x.round(4, 0), x -> x.round(4, 1), x -> x.judge(4, 109_000_203_349L), x -> x.may(0),
                x -> x.may(1), x -> x.share(4, 3, true), x -> x.share(4, 3, false), x -> x.rests(3, 2, 0),
                x -> x.rests(2, 3, 1), x -> x.stays(3, 60, 10, true), x -> x.stays(3, 60, 0, false),
                UnderLadders::fault);
        for (int i = 0; i < questions.size(); i++) {
            UnderLadders x = full();
            long answer = questions.get(i).applyAsLong(x);
            due.yes("question " + i + " is answered", answer >= 0 || answer == NONE);
            due.yes("question " + i + " changes nothing", untouched.equals(pictureOf(x)));
        }
    }
}
