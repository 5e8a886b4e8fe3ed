/** Each promise by its number: ordinary inputs, the edges, and wrong inputs, worked out by hand. */
public final class PromisesTest {
    private static final int UNKNOWN = -1, OUTSIDE = -2, STATE = -3, FULL = -4, NONE = -9;
    private static final Due due = new Due("PromisesTest");

    public static void main(String[] args) {
        promise1();
        promises2and3();
        promise4();
        promise5();
        promise6();
        promise7();
        promise8();
        promise9();
        promise9kinds();
        promise10();
        promise11();
        promise12();
        promise13();
        promises14and15();
        promise16();
        promise17();
        promise18();
        promise19();
        promises20to22();
        promise23();
        promise24();
        promise25();
        promises26and27();
        promises28and29();
        promise30();
        due.end();
    }

    private static void promise1() {
        UnderLadders x = new UnderLadders();
        for (int what = 0; what <= 9; what++) {
            due.is("1 count " + what, x.count(what), 0);
        }
        due.is("1 seed", x.seed(0), 0);
        due.is("1 undo", x.undo(), STATE);
        due.is("1 again 0", x.again(0), STATE);
        due.is("1 again 1", x.again(1), STATE);
        for (int place = 0; place < 10; place++) {
            due.is("1 at", x.at(place), NONE);
        }
        due.is("1 constants", UnderLadders.UNKNOWN * 10000 + UnderLadders.OUTSIDE * 1000
                + UnderLadders.STATE * 100 + UnderLadders.FULL * 10 + UnderLadders.NONE, -12349);
    }

    private static void promises2and3() {
        UnderLadders x = new UnderLadders();
        due.is("2 below", x.write(-1), OUTSIDE);
        due.is("2 above", x.write(256), OUTSIDE);
        due.is("2 nothing changed", x.count(0), 0);
        for (int i = 1; i <= 48; i++) {
            due.is("2 write", x.write(i % 2 == 0 ? 0 : 255), i);
        }
        due.is("2 full", x.write(77), FULL);
        due.is("2 outside comes ahead of full", x.write(256), OUTSIDE);
        due.is("2 still 48", x.count(0), 48);
        due.is("3 wipe", x.wipe(), 48);
        due.is("3 wipe again", x.wipe(), 0);
        due.is("3 count", x.count(0), 0);
        due.is("2 anew", x.write(77), 1);
    }

    private static int faultOf(String text) {
        UnderLadders x = new UnderLadders();
        Due.write(x, text);
        return x.fault();
    }

    private static void promise4() {
        due.is("4 empty", faultOf(""), 0);
        due.is("4 M", faultOf("M"), NONE);
        due.is("4 m", faultOf("m"), 0);
        due.is("4 MM", faultOf("MM"), 1);
        due.is("4 ladder", faultOf("ML010"), NONE);
        due.is("4 ladder open", faultOf("ML01"), 4);
        due.is("4 person", faultOf("MP0190"), NONE);
        due.is("4 person open", faultOf("MP019"), 5);
        due.is("4 person begun", faultOf("MP"), 2);
        due.is("4 place no figure", faultOf("MLx10"), 2);
        due.is("4 sign ahead of 0", faultOf("ML/10"), 2);
        due.is("4 sign behind 9", faultOf("ML:10"), 2);
        due.is("4 t is 0", faultOf("ML000"), 3);
        due.is("4 kind 4", faultOf("ML014"), 4);
        due.is("4 kind 3", faultOf("ML013"), NONE);
        due.is("4 place told", faultOf("ML010ML"), 5);
        due.is("4 place told twice", faultOf("ML010L0"), 6);
        due.is("4 home is work", faultOf("MP0091"), 3);
        due.is("4 work no figure", faultOf("MP0L"), 3);
        due.is("4 luck no figure", faultOf("MP01P"), 4);
        due.is("4 kind of person", faultOf("MP0104"), 5);
        due.is("4 four ladders", faultOf("ML010L110L210L310"), NONE);
        due.is("4 fifth ladder", faultOf("ML010L110L210L310L"), 17);
        due.is("4 fifth ladder behind a person", faultOf("ML010L110L210L310P0100L4"), 22);
        due.is("4 five people", faultOf("MP0100P0100P0100P0100P0100"), NONE);
        due.is("4 sixth person", faultOf("MP0100P0100P0100P0100P0100P"), 26);
        due.is("4 all", faultOf("ML010L110L210L310P0100P0100P0100P0100P0100"), NONE);
        due.is("4 mixed", faultOf("MP0100L010P0100L110"), NONE);
        due.is("4 zero letter", faultOf("M\0"), 1);
        due.is("4 letter 255", faultOf("M\u00ff"), 1);
    }

    private static void promise5() {
        UnderLadders x = new UnderLadders();
        due.is("5 empty", x.market(), STATE);
        Due.write(x, "ML552P4693P6490");
        due.is("5 market", x.market(), 12);
        due.is("5 the text stays", x.count(0), 15);
        x.day();
        x.keep(0);
        x.see(5, 3);
        x.seed(77);
        x.write('Q');
        due.is("5 fault", x.market(), STATE);
        due.is("5 nothing changed: day", x.count(3), 1);
        due.is("5 nothing changed: row", x.count(8), 1);
        due.is("5 nothing changed: slot", x.again(0), 1);
        x.day();
        Due.write(x, "M");
        due.is("5 M alone", x.market(), 0);
        due.is("5 nobody", x.count(2), 0);
        due.is("5 no ladder", x.at(5), NONE);
        due.is("5 row", x.count(8), 0);
        due.is("5 day", x.count(3), 0);
        due.is("5 kept is gone", x.again(0), STATE);
        due.is("5 seen stays", x.count(9), 1);
        due.is("5 seed stays", x.seed(0), 77);
        Due.write(x, "ML552P4693P6490");
        x.market();
        x.day();
        due.is("5 anew", x.market(), 12);
        due.is("5 anew: at home", x.count(7), 3);
        due.is("5 anew: gold", x.ladder(0, 4), 0);
        due.is("5 anew: luck", x.person(0, 4), 9);
    }

    private static void promise6() {
        UnderLadders x = Due.market("ML371L092P5983");
        due.is("6 place", x.ladder(0, 0), 3);
        due.is("6 t", x.ladder(0, 1), 7);
        due.is("6 kind", x.ladder(0, 2), 1);
        due.is("6 second", x.ladder(1, 0) * 100 + x.ladder(1, 1) * 10 + x.ladder(1, 2), 92);
        due.is("6 unknown", x.ladder(2, 0), UNKNOWN);
        due.is("6 below", x.ladder(-1, 0), UNKNOWN);
        due.is("6 unknown ahead of outside", x.ladder(2, 9), UNKNOWN);
        due.is("6 outside", x.ladder(0, 5), OUTSIDE);
        due.is("6 outside below", x.ladder(0, -1), OUTSIDE);
        UnderLadders y = Due.market("ML590P4672");
        y.day();
        due.is("6 luck", y.ladder(0, 3), 2);
        due.is("6 gold", y.ladder(0, 4), 1);
    }

    private static void promise7() {
        UnderLadders x = Due.market("ML310L510L710L210P3752P8230");
        due.is("7 home", x.person(0, 0), 3);
        due.is("7 work", x.person(0, 1), 7);
        due.is("7 kind", x.person(0, 2), 2);
        due.is("7 where", x.person(0, 3), 3);
        due.is("7 luck", x.person(0, 4), 5);
        due.is("7 not the first place, but the last", x.person(0, 5), 0b0110);
        due.is("7 downwards", x.person(1, 5), 0b1111);
        x.day();
        due.is("7 where then", x.person(0, 3), 7);
        due.is("7 way home", x.person(0, 5), 0b0011);
        due.is("7 way home upwards", x.person(1, 5), 0b0111);
        due.is("7 unknown", x.person(2, 0), UNKNOWN);
        due.is("7 below", x.person(-1, 0), UNKNOWN);
        due.is("7 unknown ahead of outside", x.person(2, 6), UNKNOWN);
        due.is("7 outside", x.person(0, 6), OUTSIDE);
        due.is("7 outside below", x.person(0, -1), OUTSIDE);
    }

    private static void promise8() {
        UnderLadders x = Due.market("ML010L910");
        due.is("8 first", x.at(0), 0);
        due.is("8 last", x.at(9), 1);
        due.is("8 none", x.at(5), NONE);
        due.is("8 below", x.at(-1), UNKNOWN);
        due.is("8 above", x.at(10), UNKNOWN);
    }

    private static void promise9() {
        UnderLadders x = Due.market("ML590L690P4792P7453");
        // Blind: 9 at place 5 all to ladder 0. Child: 5 at place 6 to ladder 1, then 1; at 5 that, then 1.
        due.is("9 gold got", x.day(), 3);
        due.is("9 gold 0", x.ladder(0, 4) * 10 + x.ladder(0, 3), 20);
        due.is("9 gold 1", x.ladder(1, 4) * 10 + x.ladder(1, 3), 10);
        due.is("9 blind", x.person(0, 4), 0);
        due.is("9 child", x.person(1, 4), 1);
        due.is("9 the day", x.count(3), 1);
        due.is("9 nothing more", x.day(), 0);
        due.is("9 home again", x.count(7), 3);
    }

    private static void promise9kinds() {
        UnderLadders plain = Due.market("ML440P3550");
        due.is("9 plain: 5", plain.day() * 10 + plain.person(0, 4), 4);
        due.is("9 plain: 4", plain.day() * 10 + plain.person(0, 4), 3);
        due.is("9 plain: 3 goes under", plain.day() * 10 + plain.person(0, 4), 0);
        due.is("9 plain: man", plain.ladder(0, 3), 3);
        UnderLadders careful = Due.market("ML440P3511");
        careful.day();
        due.is("9 careful", careful.person(0, 4), 0);
        careful.day();
        due.is("9 careful, 0 at least", careful.person(0, 4), 0);
        due.is("9 careful brings nothing", careful.ladder(0, 3), 0);
        UnderLadders steep = Due.market("ML441P3572");
        steep.day();
        due.is("9 steep: half of 7", steep.person(0, 4), 4);
        steep.give(0, 9);
        steep.day();
        due.is("9 steep: t at most", steep.person(0, 4), 9);
        due.is("9 steep: 3 and 4", steep.ladder(0, 4) * 10 + steep.ladder(0, 3), 12);
        UnderLadders hungry = Due.market("ML413P3592");
        due.is("9 hungry", hungry.day() * 10 + hungry.person(0, 4), 10);
        due.is("9 hungry: man", hungry.ladder(0, 3), 4);
        UnderLadders bent = Due.market("ML492P3592P3592");
        due.is("9 bent: 12 of 18", bent.day(), 2);
        due.is("9 bent: rest is lost", bent.ladder(0, 3), 2);
        UnderLadders child = Due.market("ML410P3503");
        child.day();
        due.is("9 child is paid", child.person(0, 4), 1);
        for (int i = 0; i < 11; i++) {
            child.give(0, 9);
        }
        due.is("9 child at 99", child.person(0, 4), 99);
        child.day();
        due.is("9 child pays and is paid", child.person(0, 4), 99);
        UnderLadders zero = Due.market("ML411P3502");
        zero.day();
        due.is("9 nothing to take", zero.person(0, 4) + zero.ladder(0, 3), 0);
    }

    private static void promise10() {
        UnderLadders x = Due.market("ML310L510P0992");
        due.is("10 move", x.move(0, 9), 3);
        due.is("10 there", x.at(9), 0);
        due.is("10 not there", x.at(3), NONE);
        due.is("10 back", x.move(0, 3), 9);
        due.is("10 taken", x.move(0, 5), STATE);
        due.is("10 its own", x.move(0, 3), STATE);
        due.is("10 unknown ladder", x.move(2, 1), UNKNOWN);
        due.is("10 ladder below", x.move(-1, 1), UNKNOWN);
        due.is("10 unknown place", x.move(0, 10), UNKNOWN);
        due.is("10 place below", x.move(0, -1), UNKNOWN);
        due.is("10 unknown ahead of state", x.move(2, 5), UNKNOWN);
        due.is("10 two acts", x.count(8), 2);
    }

    private static void promise11() {
        UnderLadders x = Due.market("ML590P4672");
        x.day();
        due.is("11 down", x.down(0), 1);
        due.is("11 no luck, no gold", x.ladder(0, 3) + x.ladder(0, 4), 0);
        due.is("11 again", x.down(0), 0);
        due.is("11 an act", x.count(8), 3);
        due.is("11 unknown", x.down(1), UNKNOWN);
        due.is("11 below", x.down(-1), UNKNOWN);
        due.is("11 no act", x.count(8), 3);
    }

    private static void promise12() {
        UnderLadders x = Due.market("MP0190");
        due.is("12 give 1", x.give(0, 1), 10);
        due.is("12 give 0", x.give(0, 0), OUTSIDE);
        due.is("12 give 10", x.give(0, 10), OUTSIDE);
        due.is("12 unknown", x.give(1, 1), UNKNOWN);
        due.is("12 below", x.give(-1, 1), UNKNOWN);
        due.is("12 unknown ahead of outside", x.give(1, 0), UNKNOWN);
        due.is("12 one act", x.count(8), 1);
        for (int i = 1; i <= 9; i++) {
            due.is("12 give 9", x.give(0, 9), 10 + 9 * i);
        }
        due.is("12 99 at most", x.give(0, 9), 99);
        due.is("12 an act all the same", x.count(8), 11);
    }

    private static void promise13() {
        UnderLadders x = Due.market("ML590P4672");
        due.is("13 none", x.undo(), STATE);
        x.day();
        x.move(0, 6);
        x.down(0);
        x.give(0, 9);
        due.is("13 give", x.undo(), 3);
        due.is("13 luck", x.person(0, 4), 0);
        due.is("13 down", x.undo(), 2);
        due.is("13 gold", x.ladder(0, 4) * 10 + x.ladder(0, 3), 12);
        due.is("13 move", x.undo(), 1);
        due.is("13 place", x.at(5), 0);
        due.is("13 place left", x.at(6), NONE);
        due.is("13 day", x.undo(), 0);
        due.is("13 luck at first", x.person(0, 4), 7);
        due.is("13 at home", x.count(7), 1);
        due.is("13 the day", x.count(3), 0);
        due.is("13 no gold", x.count(6), 0);
        due.is("13 none left", x.undo(), STATE);
        for (int i = 0; i < 17; i++) {
            x.day();
        }
        due.is("13 14 at most", x.count(8), 14);
        for (int left = 13; left >= 0; left--) {
            due.is("13 undo", x.undo(), left);
        }
        due.is("13 first ones forgotten", x.undo(), STATE);
        due.is("13 day 3", x.count(3), 3);
    }

    private static void promises14and15() {
        UnderLadders x = Due.market("ML420P3592");
        for (int n = 0; n <= 20; n++) {
            due.is("14 luck in " + n, x.luck(0, n), Math.max(0, 9 - 2 * n));
            due.is("15 gold in " + n, x.gold(0, n), Math.min(9, 2 * n) / 5);
        }
        due.is("14 outside", x.luck(0, 21), OUTSIDE);
        due.is("14 below", x.luck(0, -1), OUTSIDE);
        due.is("14 unknown", x.luck(1, 21), UNKNOWN);
        due.is("15 outside", x.gold(0, 21), OUTSIDE);
        due.is("15 below", x.gold(0, -1), OUTSIDE);
        due.is("15 unknown", x.gold(1, 21), UNKNOWN);
        due.is("15 nothing changed", x.count(3) + x.count(8), 0);
        due.is("15 nothing changed: luck", x.count(4), 9);
    }

    private static void promise16() {
        due.is("16 now", Due.market("MP0102").lost(0), 0);
        due.is("16 never", Due.market("MP0112").lost(0), NONE);
        due.is("16 five days", Due.market("ML420P3592").lost(0), 5);
        UnderLadders x = Due.market("ML410P3591");
        x.give(0, 9);
        x.give(0, 2);
        due.is("16 twenty days", x.lost(0), 20);
        x.give(0, 1);
        due.is("16 twenty-one days", x.lost(0), NONE);
        due.is("16 unknown", x.lost(1), UNKNOWN);
        due.is("16 below", x.lost(-1), UNKNOWN);
        due.is("16 nothing changed", x.count(3), 0);
    }

    private static void promise17() {
        // One that walks 3 to 5 and back comes to 4 daily, to 5 and 3 on every other day.
        UnderLadders x = Due.market("ML010P3592");
        due.is("17 which", x.spot(0, 0), 4);
        due.is("17 how much", x.spot(0, 1), 1);
        // Only the luck of the man differs: 3 under 5 and 3, of which 5 comes first.
        UnderLadders y = Due.market("ML010L420P3592");
        due.is("17 by luck then the least", y.spot(0, 0), 5);
        due.is("17 no gold", y.spot(0, 1), 0);
        due.is("17 its own place", y.spot(1, 0), 4);
        UnderLadders z = Due.market("ML710L010");
        due.is("17 nobody: the least that is free", z.spot(0, 0), 1);
        due.is("17 nobody: its own", z.spot(1, 0), 0);
        UnderLadders rich = Due.market("ML590P4672");
        rich.day();
        due.is("17 gold that he has counts", rich.spot(0, 1), 1);
        UnderLadders long6 = Due.market("ML050P3592");
        long6.give(0, 9);
        long6.give(0, 9);
        long6.give(0, 9);
        due.is("17 six days, not seven", long6.spot(0, 1), 6);
        long6.move(0, 4);
        due.is("23 six days, not seven", long6.share(0, 0, true), 6);
        due.is("17 unknown", x.spot(1, 0), UNKNOWN);
        due.is("17 below", x.spot(-1, 2), UNKNOWN);
        due.is("17 outside", x.spot(0, 2), OUTSIDE);
        due.is("17 outside below", x.spot(0, -1), OUTSIDE);
        due.is("17 nothing changed", x.at(0), 0);
        due.is("17 no act", x.count(8), 0);
    }

    private static void promise18() {
        UnderLadders x = Due.market("ML120L211L313L410P0591P9870");
        // 9: round ladder 0: 8; under 1 (half, 1 at most): 7, or round: 7; round 2: 6; under 3: 5.
        due.is("18 which", x.round(0, 0), 0b0101);
        due.is("18 how much", x.round(0, 1), 5);
        due.is("18 none on the way", x.round(1, 0), 0);
        due.is("18 none on the way: luck", x.round(1, 1), 7);
        UnderLadders poor = Due.market("ML120L213P0400P0313");
        due.is("18 nothing to lose", poor.round(0, 0), 0);
        due.is("18 nothing is left", poor.round(0, 1), 0);
        due.is("18 fewest", poor.round(1, 0), 0);
        due.is("18 a child is not paid here", poor.round(1, 1), 0);
        UnderLadders like = Due.market("ML220L120P0420");
        // 2 luck: any one stepped round, then under the other: nothing; both round: nothing.
        due.is("18 like ones: fewest", like.round(0, 0), 0);
        like.give(0, 1);
        due.is("18 both round: 1", like.round(0, 0), 3);
        UnderLadders least = Due.market("ML221L121P0430");
        // 3: half is 1: the same as the mud; 2: 1 again.
        due.is("18 under is as good", least.round(0, 0), 0);
        due.is("18 under is as good: luck", least.round(0, 1), 1);
        UnderLadders tie = Due.market("ML191L291P0430");
        tie.give(0, 1);
        // 4: under both 2, 1; round first 3, 2; under, round: 2, 1; both 3, 2.
        due.is("18 the first one only", tie.round(0, 0), 1);
        due.is("18 the first one only: luck", tie.round(0, 1), 2);
        UnderLadders merge = Due.market("ML120L221L320L411P0550");
        // 5: round 2 alone: 3, 2, 1, 1; round 0 and 1 (less as bits, but more of them): 4, 3, 1, 1.
        due.is("18 fewest ahead of least", merge.round(0, 0), 0b0100);
        due.is("18 fewest ahead of least: luck", merge.round(0, 1), 1);
        due.is("18 unknown", x.round(2, 0), UNKNOWN);
        due.is("18 below", x.round(-1, 2), UNKNOWN);
        due.is("18 outside", x.round(0, 2), OUTSIDE);
        due.is("18 outside below", x.round(0, -1), OUTSIDE);
    }

    private static void promise19() {
        UnderLadders x = Due.market("ML410L910P3552");
        due.is("19 a day", x.judge(1, 0), NONE);
        due.is("19 no such day", x.judge(1, 1), 0);
        due.is("19 no such day either", x.judge(1, 10), 0);
        due.is("19 moved", x.judge(1, 105), NONE);
        due.is("19 moved to its own", x.judge(1, 104), 0);
        due.is("19 moved to the other", x.judge(1, 109), 0);
        due.is("19 moved twice", x.judge(2, 105_104L), NONE);
        due.is("19 moved there twice", x.judge(2, 105_105L), 1);
        due.is("19 place left is free", x.judge(2, 105_114L), NONE);
        due.is("19 no such ladder", x.judge(1, 125), 0);
        due.is("19 down", x.judge(1, 201), NONE);
        due.is("19 down, no such ladder", x.judge(1, 202), 0);
        due.is("19 down, figure between", x.judge(1, 210), 0);
        due.is("19 given", x.judge(1, 301), NONE);
        due.is("19 given nothing", x.judge(1, 300), 0);
        due.is("19 given to nobody", x.judge(1, 311), 0);
        due.is("19 has 5", x.judge(1, 405), NONE);
        due.is("19 has 6", x.judge(1, 406), 0);
        due.is("19 nobody has", x.judge(1, 410), 0);
        due.is("19 no such doing", x.judge(1, 500), 0);
        due.is("19 no such doing 9", x.judge(1, 999), 0);
        due.is("19 leftmost first", x.judge(2, 304_409L), NONE);
        due.is("19 not the other way", x.judge(2, 409_304L), 0);
        due.is("19 a day first", x.judge(2, 405L), 1);
        due.is("19 four", x.judge(4, 106_000_304_409L), NONE);
        due.is("19 four, moved under", x.judge(4, 304_000_408L), 3);
        due.is("19 four, third", x.judge(4, 405_500L), 2);
        due.is("19 n 0", x.judge(0, 0), OUTSIDE);
        due.is("19 n 5", x.judge(5, 0), OUTSIDE);
        due.is("19 row below", x.judge(1, -1), OUTSIDE);
        due.is("19 row too long", x.judge(1, 1000), OUTSIDE);
        due.is("19 row too long for four", x.judge(4, 1_000_000_000_000L), OUTSIDE);
        due.is("19 row far too long", x.judge(4, Long.MAX_VALUE), OUTSIDE);
        due.is("19 longest row", x.judge(4, 999_999_999_999L), 0);
        due.is("19 nothing changed", x.count(3) + x.count(8) + x.at(5), NONE);
        due.is("19 nothing changed: luck", x.count(4), 5);
    }

    private static void promises20to22() {
        UnderLadders x = new UnderLadders();
        due.is("22 all", x.may(0), 27);
        due.is("22 first of all", x.may(1), 1);
        due.is("22 outside", x.may(2), OUTSIDE);
        due.is("22 outside below", x.may(-1), OUTSIDE);
        due.is("20 a above", x.see(21, 0), OUTSIDE);
        due.is("20 a below", x.see(-1, 0), OUTSIDE);
        due.is("20 b above a", x.see(3, 4), OUTSIDE);
        due.is("20 b below", x.see(3, -1), OUTSIDE);
        due.is("20 see", x.see(20, 0), 1);
        due.is("22 hungry alone", x.may(0), 9);
        due.is("22 hungry first", x.may(1), 31);
        due.is("20 see", x.see(1, 1), 2);
        due.is("22 none: how many", x.may(0), 0);
        due.is("22 none: first", x.may(1), NONE);
        due.is("21 unsee", x.unsee(), 2);
        due.is("21 nothing", x.unsee(), 0);
        x.see(1, 1);
        due.is("22 steep: half of 1", x.may(0), 9);
        due.is("22 steep first", x.may(1), 11);
        x.see(20, 13);
        due.is("22 steep 7", x.may(0) * 100 + x.may(1), 117);
        for (int i = 3; i <= 6; i++) {
            due.is("20 see", x.see(20, 20), i);
        }
        due.is("20 full", x.see(20, 20), FULL);
        due.is("20 outside ahead of full", x.see(20, 21), OUTSIDE);
        due.is("20 six", x.count(9), 6);
        due.is("21 unsee six", x.unsee(), 6);
    }

    private static void promise23() {
        // Each alone brings 3 (no gold), two bring 6 (1), all three 9 (1): by likeness a third each.
        UnderLadders x = Due.market("ML490P3532P3532P3532");
        for (int person = 0; person < 3; person++) {
            due.is("23 above", x.share(person, 0, true), 1);
            due.is("23 below", x.share(person, 0, false), 3);
        }
        // 5 alone are 1; 3 with 2 are 1 more: the first 1, the others a half.
        UnderLadders y = Due.market("ML490L010P3552P3532P3522");
        due.is("23 five", y.share(0, 0, true) * 10 + y.share(0, 0, false), 11);
        due.is("23 three", y.share(1, 0, true) * 10 + y.share(1, 0, false), 12);
        due.is("23 two", y.share(2, 0, true) * 10 + y.share(2, 0, false), 12);
        due.is("23 nothing there", y.share(0, 1, true) * 10 + y.share(0, 1, false), 1);
        due.is("23 unknown person", y.share(3, 0, true), UNKNOWN);
        due.is("23 unknown ladder", y.share(0, 2, false), UNKNOWN);
        due.is("23 person below", y.share(-1, 0, true), UNKNOWN);
        due.is("23 ladder below", y.share(0, -1, true), UNKNOWN);
        due.is("23 nothing changed", y.count(3) + y.count(8), 0);
    }

    private static void promise24() {
        // One blind walker from 0 to 1 with 9, two hungry ladders: who stands at 1 gets all on the first day.
        UnderLadders x = Due.market("ML513L613P0192");
        // At 1: 9 luck, 1 gold. At 0: nothing is left for it. So one is at 1, the other anywhere else it may be.
        due.is("24 how many", x.rests(0, 1, 0), 16);
        due.is("24 first", x.rests(0, 1, 1), 1);
        due.is("24 other way round", x.rests(1, 0, 1), 1);
        UnderLadders nobody = Due.market("ML310L810L910");
        due.is("24 nobody: all pairs", nobody.rests(0, 1, 0), 8 * 8 - 7);
        due.is("24 nobody: first", nobody.rests(0, 1, 1), 1);
        due.is("24 one is the other", x.rests(0, 0, 0), OUTSIDE);
        due.is("24 what", x.rests(0, 1, 2), OUTSIDE);
        due.is("24 what below", x.rests(0, 1, -1), OUTSIDE);
        due.is("24 unknown", x.rests(0, 2, 2), UNKNOWN);
        due.is("24 unknown one", x.rests(2, 0, 0), UNKNOWN);
        due.is("24 unknown, and the same", x.rests(2, 2, 0), UNKNOWN);
        due.is("24 below", x.rests(-1, 0, 0), UNKNOWN);
        due.is("24 nothing changed", x.at(5) * 10 + x.at(6), 1);
    }

    private static void promise25() {
        UnderLadders x = Due.market("ML490P3552P3552");
        due.is("25 one or more", x.stays(0, 1, 3, true), 91);
        due.is("25 one or more: below", x.stays(0, 1, 3, false), 100);
        due.is("25 two", x.stays(0, 2, 3, true), 49);
        due.is("25 two, by halves", x.stays(0, 2, 5, true) * 10 + x.stays(0, 2, 5, false), 14);
        due.is("25 none needed", x.stays(0, 0, 7, true) * 10 + x.stays(0, 0, 7, false), 11);
        due.is("25 three never", x.stays(0, 3, 0, true) * 10 + x.stays(0, 3, 0, false), 1);
        due.is("25 all go", x.stays(0, 2, 0, true) * 10 + x.stays(0, 2, 0, false), 11);
        due.is("25 all stay", x.stays(0, 1, 10, true) * 10 + x.stays(0, 1, 10, false), 1);
        due.is("25 60", x.stays(0, 60, 10, false), 1);
        due.is("25 m above", x.stays(0, 61, 0, true), OUTSIDE);
        due.is("25 m below", x.stays(0, -1, 0, false), OUTSIDE);
        due.is("25 x above", x.stays(0, 0, 11, true), OUTSIDE);
        due.is("25 x below", x.stays(0, 0, -1, true), OUTSIDE);
        due.is("25 unknown", x.stays(1, 61, 0, true), UNKNOWN);
        due.is("25 below", x.stays(-1, 0, 0, false), UNKNOWN);
        due.is("25 nobody", Due.market("ML490").stays(0, 0, 5, false), 1);
        due.is("25 nothing changed", x.count(3) + x.count(8), 0);
    }

    /** The seed that becomes v by one step: the step backwards, by the factor's inverse. */
    private static long seedAheadOf(long v) {
        long factor = 6364136223846793005L;
        long inverse = factor;
        for (int i = 0; i < 6; i++) {
            inverse *= 2 - factor * inverse;
        }
        return (v - 1442695040888963407L) * inverse;
    }

    private static long seedThatDraws(int drawn) {
        return seedAheadOf((long) drawn << 33);
    }

    private static void promises26and27() {
        UnderLadders x = Due.market("ML490P3552P3592P9892P9892P9892");
        x.day();
        due.is("27 gold now", x.count(6), 2);
        due.is("27 luck now", x.ladder(0, 3), 4);
        due.is("26 seed", x.seed(Long.MIN_VALUE), 0);
        due.is("26 what it was", x.seed(1), Long.MIN_VALUE);
        due.is("27 one", x.years(1), 2);
        due.is("26 one step", x.seed(0), 6364136223846793005L + 1442695040888963407L);
        for (int drawn = 0; drawn < 30; drawn++) {
            UnderLadders y = Due.market("ML490P3552");
            y.seed(seedThatDraws(drawn));
            due.is("27 drawn " + drawn, y.years(1), drawn >= 15 ? 1 : 0);
            due.is("27 seed behind it", y.seed(0), (long) drawn << 33);
        }
        UnderLadders top = Due.market("ML490P3552");
        top.seed(seedAheadOf(-1L));
        // 2147483647 by 30 leaves 7: the ladder moves, no day.
        due.is("27 upper bits are not below 0", top.years(1), 0);
        due.is("27 m 0", x.years(0), OUTSIDE);
        due.is("27 m 31", x.years(31), OUTSIDE);
        due.is("27 refused: the seed stays", x.seed(5), 0);
        due.is("27 nothing changed: day", x.count(3), 1);
        due.is("27 nothing changed: acts", x.count(8), 1);
        UnderLadders nobody = new UnderLadders();
        due.is("27 nobody", nobody.years(30), 0);
        due.is("27 nobody: the day stays", nobody.count(3), 0);
        UnderLadders rich = Due.market("ML490P3592");
        rich.day();
        due.is("27 each time", rich.years(30), 30);
    }

    private static void promises28and29() {
        UnderLadders x = Due.market("ML490L210P3572");
        x.day();
        x.move(1, 8);
        due.is("28 keep", x.keep(1), 1);
        due.is("28 the row stays", x.count(8), 2);
        due.is("29 none kept", x.again(0), STATE);
        x.day();
        x.give(0, 9);
        x.down(0);
        x.move(1, 0);
        due.is("28 keep another", x.keep(0), 2);
        due.is("29 again", x.again(1), 1);
        due.is("29 row is empty", x.count(8), 0);
        due.is("29 no undo", x.undo(), STATE);
        due.is("29 gold and luck", x.ladder(0, 4) * 10 + x.ladder(0, 3), 12);
        due.is("29 place", x.at(8), 1);
        due.is("29 place left", x.at(0), NONE);
        due.is("29 person", x.person(0, 3) * 10 + x.person(0, 4), 50);
        x.day();
        due.is("29 the slot is not changed by going on", x.again(1), 1);
        due.is("29 the other", x.again(0), 2);
        due.is("29 the other: luck", x.person(0, 4), 9);
        due.is("28 kept over", x.keep(1), 2);
        due.is("29 kept over", x.again(1), 2);
        due.is("28 unknown", x.keep(2), UNKNOWN);
        due.is("28 below", x.keep(-1), UNKNOWN);
        due.is("29 unknown", x.again(2), UNKNOWN);
        due.is("29 below", x.again(-1), UNKNOWN);
        x.day();
        due.is("29 refused: row stays", x.again(2) + x.count(8), 0);
    }

    private static void promise30() {
        UnderLadders x = Due.market("ML490L210P3572P8921P5460");
        x.see(1, 0);
        x.day();
        x.give(1, 5);
        int[] want = {24, 2, 3, 1, 12, 2, 1, 0, 2, 1};
        for (int what = 0; what < want.length; what++) {
            due.is("30 count " + what, x.count(what), want[what]);
        }
        x.day();
        due.is("30 who is at home", x.count(7), 7);
        due.is("30 outside", x.count(10), OUTSIDE);
        due.is("30 below", x.count(-1), OUTSIDE);
    }
}
