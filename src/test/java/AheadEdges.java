/** Promises 14 to 19: days to come, places, told doings. */
final class AheadEdges {
    private static final int UNKNOWN = Due.UNKNOWN, OUTSIDE = Due.OUTSIDE, NONE = Due.NONE;
    private static final int[] NO_NUMBERS = {-1, 21, Integer.MIN_VALUE, Integer.MAX_VALUE};
    private static final int[] NOBODY = {-1, 5, Integer.MIN_VALUE, Integer.MAX_VALUE};
    private static final int[] NO_LADDER = {-1, 4, Integer.MIN_VALUE, Integer.MAX_VALUE};
    private static final int[] NO_WHAT = {-1, 2, Integer.MIN_VALUE, Integer.MAX_VALUE};

    private AheadEdges() {
    }

    /** One who comes to the one ladder, which takes 1, on each day. */
    private static UnderLadders oneADay(int luck) {
        UnderLadders x = Due.market("ML410P3502");
        Due.giveInAll(x, 0, luck);
        return x;
    }

    private static UnderLadders all() {
        return Due.market("ML010L110L210L310P0490P0490P0490P0490P0490");
    }

    // ---- promise 14: luck

    @Edge(promise = 14, says = "IN n DAYS (0 to 20): LUCK of a PERSON")
    static void luckInNoDaysAndInTwenty(Due due) {
        UnderLadders x = oneADay(30);
        due.is("now", x.luck(0, 0), 30);
        due.is("in 1", x.luck(0, 1), 29);
        due.is("in 19", x.luck(0, 19), 11);
        due.is("in 20", x.luck(0, 20), 10);
        for (int n : NO_NUMBERS) {
            due.is("in " + n, x.luck(0, n), OUTSIDE);
        }
    }

    @Edge(promise = 14, says = "IN n DAYS: LUCK. UNKNOWN; OUTSIDE: n.")
    static void luckOfTheLastPersonAndOfNoOther(Due due) {
        UnderLadders x = all();
        due.is("first", x.luck(0, 0), 9);
        due.is("last", x.luck(4, 0), 9);
        for (int person : NOBODY) {
            due.is("person " + person, x.luck(person, 0), UNKNOWN);
            due.is("person " + person + ", no such number", x.luck(person, 21), UNKNOWN);
        }
        due.is("where nobody is", Due.market("ML010").luck(0, 0), UNKNOWN);
    }

    @Edge(promise = {14, 15}, says = "In what follows nothing is changed.")
    static void daysToComeDoNotCome(Due due) {
        UnderLadders x = oneADay(9);
        x.luck(0, 20);
        x.gold(0, 20);
        due.is("THE DAY", x.count(3), 0);
        due.is("luck", x.person(0, 4), 9);
        due.is("gold", x.count(6), 0);
        due.is("acts", x.count(8), 1);
        due.is("at home", x.count(7), 1);
    }

    @Edge(promise = 14, says = "IN n DAYS (0 to 20): LUCK of a PERSON")
    static void luckIsCountedFromWhereAllAreNow(Due due) {
        // The way there ends under the ladder, the way back has none.
        UnderLadders x = Due.market("ML410P3492");
        x.day();
        due.is("now", x.luck(0, 0), 8);
        due.is("in 1", x.luck(0, 1), 8);
        due.is("in 2", x.luck(0, 2), 7);
    }

    // ---- promise 15: gold

    @Edge(promise = 15, says = "GOLD of a LADDER's man.")
    static void goldInNoDaysAndInTwenty(Due due) {
        UnderLadders x = oneADay(30);
        due.is("now", x.gold(0, 0), 0);
        due.is("in 4", x.gold(0, 4), 0);
        due.is("in 5", x.gold(0, 5), 1);
        due.is("in 19", x.gold(0, 19), 3);
        due.is("in 20", x.gold(0, 20), 4);
        for (int n : NO_NUMBERS) {
            due.is("in " + n, x.gold(0, n), OUTSIDE);
        }
    }

    @Edge(promise = 15, says = "IN n DAYS: GOLD. UNKNOWN; OUTSIDE: n.")
    static void goldOfTheLastManAndOfNoOther(Due due) {
        UnderLadders x = Due.market("ML010L110L210L393P2792");
        due.is("first", x.gold(0, 20), 0);
        due.is("last", x.gold(3, 20), 1);
        for (int ladder : NO_LADDER) {
            due.is("ladder " + ladder, x.gold(ladder, 0), UNKNOWN);
            due.is("ladder " + ladder + ", no such number", x.gold(ladder, -1), UNKNOWN);
        }
        due.is("where no ladder is", Due.market("MP0190").gold(0, 0), UNKNOWN);
    }

    @Edge(promise = 15, says = "GOLD of a LADDER's man.")
    static void goldThatHeHasNowIsInIt(Due due) {
        UnderLadders x = Due.market("ML590P4672");
        x.day();
        due.is("now", x.gold(0, 0), 1);
        due.is("in 20", x.gold(0, 20), 1);
    }

    // ---- promise 16: lost

    @Edge(promise = 16, says = "LOST: in how many DAYS (1 to 20) a PERSON has no LUCK at first; 0: now; NONE.")
    static void luckIsLostNowOrInOneToTwentyDaysOrNot(Due due) {
        int[] luck = {0, 1, 2, 19, 20, 21, 22, 99};
        int[] want = {0, 1, 2, 19, 20, NONE, NONE, NONE};
        for (int i = 0; i < luck.length; i++) {
            due.is("lost with " + luck[i], oneADay(luck[i]).lost(0), want[i]);
        }
    }

    @Edge(promise = 16, says = "a PERSON has no LUCK at first; 0: now; NONE.")
    static void luckIsNeverLostWhereNoLadderIs(Due due) {
        due.is("with 1", Due.market("MP0910").lost(0), NONE);
        due.is("with 0", Due.market("MP0900").lost(0), 0);
        due.is("a child's, who is paid", Due.market("ML413P3493").lost(0), NONE);
        due.is("a child's who has nothing now", Due.market("ML413P3403").lost(0), 0);
    }

    @Edge(promise = 16, says = "LOST; NONE. UNKNOWN.")
    static void lostOfTheLastPersonAndOfNoOther(Due due) {
        UnderLadders x = Due.market("MP0110P0120P0130P0140P0100");
        due.is("first", x.lost(0), NONE);
        due.is("last", x.lost(4), 0);
        for (int person : NOBODY) {
            due.is("person " + person, x.lost(person), UNKNOWN);
        }
        due.is("where nobody is", Due.market("ML010").lost(0), UNKNOWN);
    }

    @Edge(promise = 16, says = "In what follows nothing is changed.")
    static void whatWillBeLostIsStillThere(Due due) {
        UnderLadders x = oneADay(5);
        due.is("lost", x.lost(0), 5);
        due.is("luck", x.person(0, 4), 5);
        due.is("THE DAY", x.count(3), 0);
        due.is("acts", x.count(8), 1);
    }

    @Edge(promise = {14, 15, 16, 17, 19}, says = "PEOPLE (5 at most)")
    static void theLastOfFivePeopleGoesOnDaysToCome(Due due) {
        UnderLadders x = Due.market("ML410P8902P8902P8902P8902P3552");
        due.is("luck", x.luck(4, 1), 4);
        due.is("luck of all days", x.luck(4, 20), 0);
        due.is("gold", x.gold(0, 5), 1);
        due.is("lost", x.lost(4), 5);
        due.is("spot", x.spot(0, 0), 4);
        due.is("gold there", x.spot(0, 1), 1);
        due.is("judged, 4 are left by a day", x.judge(2, 444), NONE);
        due.is("judged, not 5", x.judge(2, 445), 1);
    }

    // ---- promise 17: spot

    @Edge(promise = 17, says = "its man has most GOLD in 6 DAYS")
    static void aSpotIsGoodForSixDays(Due due) {
        UnderLadders x = Due.market("ML050P3502");
        Due.giveInAll(x, 0, 99);
        due.is("which", x.spot(0, 0), 4);
        due.is("gold: 5 on each of 6 days", x.spot(0, 1), 6);
        UnderLadders small = Due.market("ML010P3502");
        Due.giveInAll(small, 0, 99);
        due.is("gold: 1 on each of 6 days", small.spot(0, 1), 1);
    }

    @Edge(promise = 17, says = "SPOT for a LADDER: the PLACE (its own, or one where none is)")
    static void itsOwnPlaceMayBeTheBest(Due due) {
        UnderLadders x = Due.market("ML420P3592");
        due.is("which", x.spot(0, 0), 4);
        due.is("gold", x.spot(0, 1), 1);
        UnderLadders late = Due.market("ML913L813P8992");
        due.is("at the end of the street", late.spot(0, 0), 9);
        due.is("gold there", late.spot(0, 1), 1);
    }

    @Edge(promise = 17, says = "SPOT for a LADDER: the PLACE (its own, or one where none is)")
    static void aPlaceWhereAnotherLadderIsIsNoSpot(Due due) {
        // Who stood at 8 would have the luck of the second day, but there the other one is: 9 has it on the first.
        UnderLadders x = Due.market("ML813L013P8992");
        due.is("which", x.spot(1, 0), 9);
        due.is("gold", x.spot(1, 1), 1);
        UnderLadders y = Due.market("ML510L010L110L210");
        due.is("0 to 2 have ladders", y.spot(0, 0), 3);
    }

    @Edge(promise = 17, says = "of like ones that by which he has most LUCK then, then the least: which; how much GOLD.")
    static void likeSpotsGoByLuckThen(Due due) {
        // 4 luck in all: who stands at 4 has it by day 4; 3 and 5 are come to on three days of six.
        UnderLadders x = Due.market("ML010P3542");
        due.is("no gold", x.spot(0, 1), 0);
        due.is("most luck", x.spot(0, 0), 4);
    }

    @Edge(promise = 17, says = "of like ones that by which he has most LUCK then, then the least: which; how much GOLD.")
    static void likeSpotsOfLikeLuckGoByTheLeast(Due due) {
        UnderLadders nobody = Due.market("ML910");
        due.is("nobody comes: the first place", nobody.spot(0, 0), 0);
        due.is("nobody comes: no gold", nobody.spot(0, 1), 0);
        UnderLadders two = Due.market("ML910P3492");
        // 4 on days 1, 3, 5 and 3 on days 2, 4, 6: three each.
        due.is("3 and 4 are like", two.spot(0, 0), 3);
        UnderLadders hungry = Due.market("ML013P0992");
        due.is("1 to 9 all take it on the first day, 0 on the second", hungry.spot(0, 0), 0);
        due.is("gold", hungry.spot(0, 1), 1);
    }

    @Edge(promise = 17, says = "there from now on")
    static void goldAndLuckThatHeHasStayWithHim(Due due) {
        UnderLadders x = Due.market("ML590P4672");
        x.day();
        due.is("gold that he has", x.spot(0, 1), 1);
        // 2 luck now; 3 more are given and taken: 5, wherever he is on the way.
        x.give(0, 3);
        due.is("gold with what he had", x.spot(0, 1), 2);
        due.is("which", x.spot(0, 0), 4);
    }

    @Edge(promise = 17, says = "SPOT: which (what = 0), how much GOLD (1). UNKNOWN; OUTSIDE.")
    static void spotsOfTheLastLadderAndOfNoOther(Due due) {
        UnderLadders x = all();
        due.is("last", x.spot(3, 1) >= 0 ? 1 : 0, 1);
        for (int ladder : NO_LADDER) {
            due.is("ladder " + ladder, x.spot(ladder, 0), UNKNOWN);
            due.is("ladder " + ladder + ", no such what", x.spot(ladder, 2), UNKNOWN);
        }
        for (int what : NO_WHAT) {
            due.is("what " + what, x.spot(0, what), OUTSIDE);
        }
        due.is("where no ladder is", Due.market("MP0190").spot(0, 0), UNKNOWN);
    }

    @Edge(promise = 17, says = "In what follows nothing is changed.")
    static void aSpotIsNotGoneTo(Due due) {
        UnderLadders x = Due.market("ML050P3592");
        x.spot(0, 0);
        due.is("it stands", x.ladder(0, 0), 0);
        due.is("at 0", x.at(0), 0);
        due.is("at 4", x.at(4), NONE);
        due.is("acts", x.count(8), 0);
        due.is("THE DAY", x.count(3), 0);
    }

    @Edge(promise = {17, 18}, says = "In what follows nothing is changed.")
    static void aQuestionForgetsTheOneAheadOfIt(Due due) {
        UnderLadders x = Due.market("ML453L811P3592P0150");
        due.is("a good spot", x.spot(0, 1), 1);
        due.is("a spot without gold, behind it: which", x.spot(1, 0), 0);
        due.is("a spot without gold, behind it: how much", x.spot(1, 1), 0);
        due.is("round nothing, behind it: which", x.round(1, 0), 0);
        due.is("round nothing, behind it: how much", x.round(1, 1), 5);
        due.is("round one", x.round(0, 0), 1);
        due.is("round nothing, behind that: which", x.round(1, 0), 0);
        due.is("the good spot again", x.spot(0, 1), 1);
    }

    // ---- promise 18: round

    private static void rounds(Due due, String market, int which, int howMuch) {
        UnderLadders x = Due.market(market);
        due.is(market + ": which", x.round(0, 0), which);
        due.is(market + ": how much", x.round(0, 1), howMuch);
    }

    @Edge(promise = 18, says = "ROUND: of all ways in which a PERSON can step round LADDERS that it comes to on its next way")
    static void noLadderOnTheWayOrAllOfThem(Due due) {
        rounds(due, "MP0990", 0, 9);
        rounds(due, "ML010L910P0890", 0, 9);
        rounds(due, "ML113L213L313L413P0590", 0b1111, 5);
        rounds(due, "ML410L310L210L110P0590", 0, 5);
    }

    @Edge(promise = 18, says = "it comes to each PLACE on its way but the one where it begins, the last one, too")
    static void theLastPlaceIsStoodRoundAndNotTheFirst(Due due) {
        rounds(due, "ML313L713P3790", 0b10, 8);
        UnderLadders x = Due.market("ML313L713P3791");
        x.day();
        due.is("back: which", x.round(0, 0), 0b01);
        due.is("back: how much", x.round(0, 1), 7);
    }

    @Edge(promise = 18, says = "(1 less each, 0 at least; others it goes under; its KIND set aside)")
    static void byTheMudNobodyHasLessThanNothing(Due due) {
        rounds(due, "ML113P0200", 0, 0);
        rounds(due, "ML113P0210", 0, 0);
        rounds(due, "ML113P0220", 1, 1);
        rounds(due, "ML113L213P0320", 0, 0);
        rounds(due, "ML113L213P0330", 0b11, 1);
    }

    @Edge(promise = 18, says = "(1 less each, 0 at least; others it goes under; its KIND set aside)")
    static void allKindsAnswerAlike(Due due) {
        for (int kind = 0; kind <= 3; kind++) {
            rounds(due, "ML120L210L391P059" + kind, 0b101, 6);
            rounds(due, "ML110P023" + kind, 0, 2);
            rounds(due, "ML110P020" + kind, 0, 0);
        }
    }

    @Edge(promise = 18, says = "of like ones that of fewest stepped round")
    static void ofLikeWaysTheFewestAreSteppedRound(Due due) {
        rounds(due, "ML110P0290", 0, 8);
        rounds(due, "ML191P0230", 0, 2);
        rounds(due, "ML191P0220", 0, 1);
        rounds(due, "ML191P0240", 1, 3);
        // 5: round 2 alone: 3, 2, 1, 1; round 0 and 1 (less as bits, but two of them): 4, 3, 1, 1.
        rounds(due, "ML120L221L320L411P0550", 0b0100, 1);
    }

    @Edge(promise = 18, says = "of fewest stepped round, then the least (LADDERS as bits): which; how much.")
    static void ofLikeWaysAsFewTheLeastBitsAreTold(Due due) {
        // 4: one of the two that take 2 is stepped round, either one: 1 is left, of which the steep one takes nothing.
        rounds(due, "ML120L220L391P0440", 0b001, 1);
        rounds(due, "ML220L120L391P0440", 0b001, 1);
        rounds(due, "ML391L120L220P0440", 0b010, 1);
        rounds(due, "ML391L220L120P0440", 0b010, 1);
    }

    @Edge(promise = 18, says = "that by which it has most LUCK at its end")
    static void roundWithTheMostLuck(Due due) {
        UnderLadders x = Due.market("ML113L220P0390");
        Due.giveInAll(x, 0, 90);
        due.is("which", x.round(0, 0), 0b11);
        due.is("how much", x.round(0, 1), 97);
    }

    @Edge(promise = 18, says = "ROUND: which, as bits (what = 0), how much (1). UNKNOWN; OUTSIDE.")
    static void roundOfTheLastPersonAndOfNoOther(Due due) {
        UnderLadders x = Due.market("ML113P0190P0290P0390P0490P9870");
        due.is("first", x.round(0, 0), 1);
        due.is("last", x.round(4, 1), 7);
        for (int person : NOBODY) {
            due.is("person " + person, x.round(person, 0), UNKNOWN);
            due.is("person " + person + ", no such what", x.round(person, 2), UNKNOWN);
        }
        for (int what : NO_WHAT) {
            due.is("what " + what, x.round(0, what), OUTSIDE);
        }
        due.is("where nobody is", Due.market("ML010").round(0, 0), UNKNOWN);
    }

    @Edge(promise = 18, says = "In what follows nothing is changed.")
    static void nobodyGoesRoundYet(Due due) {
        UnderLadders x = Due.market("ML113L220P0390");
        x.round(0, 0);
        due.is("luck", x.person(0, 4), 9);
        due.is("where", x.person(0, 3), 0);
        due.is("luck of men", x.count(5), 0);
        due.is("acts", x.count(8), 0);
    }

    // ---- promise 19: judge

    @Edge(promise = 19, says = "JUDGED: n doings (1 to 4)")
    static void oneToFourDoingsAreJudged(Due due) {
        UnderLadders x = oneADay(4);
        for (int n = 1; n <= 4; n++) {
            due.is(n + " days", x.judge(n, 0), NONE);
        }
        int[] beyond = {0, 5, -1, Integer.MIN_VALUE, Integer.MAX_VALUE};
        for (int n : beyond) {
            due.is(n + " doings", x.judge(n, 0), OUTSIDE);
        }
    }

    @Edge(promise = 19, says = "OUTSIDE: n, row (0 or more, 3 n figures at most).")
    static void aRowHasThreeFiguresForEachDoingAtMost(Due due) {
        UnderLadders x = oneADay(4);
        long most = 1;
        for (int n = 1; n <= 4; n++) {
            most *= 1000;
            due.is("greatest row of " + n, x.judge(n, most - 1), 0);
            due.is("one more than that for " + n, x.judge(n, most), OUTSIDE);
            due.is("greatest long for " + n, x.judge(n, Long.MAX_VALUE), OUTSIDE);
            due.is("least long for " + n, x.judge(n, Long.MIN_VALUE), OUTSIDE);
            due.is("below 0 for " + n, x.judge(n, -1), OUTSIDE);
        }
        due.is("a row that would be 0 as an int", x.judge(1, 1L << 32), OUTSIDE);
        due.is("four long doings", x.judge(4, 301_302_303_403L), NONE);
    }

    @Edge(promise = 19, says = "the place of the first that can not be (or is not so); NONE: none.")
    static void theFirstWrongOneIsToldWhereverItIs(Due due) {
        UnderLadders x = oneADay(4);
        due.is("first of four", x.judge(4, 999_000_000_000L), 0);
        due.is("second of four", x.judge(4, 999_000_000L), 1);
        due.is("third of four", x.judge(4, 999_000L), 2);
        due.is("last of four", x.judge(4, 999L), 3);
        due.is("two of four", x.judge(4, 999_000_999L), 1);
        due.is("all of four", x.judge(4, 999_999_999_999L), 0);
        due.is("none of four", x.judge(4, 301_000_200_404L), NONE);
    }

    @Edge(promise = 19, says = "(0, 0, 0: A DAY;")
    static void aDayIsThreeNoughts(Due due) {
        UnderLadders x = oneADay(4);
        due.is("000", x.judge(1, 0), NONE);
        for (int other = 1; other <= 99; other++) {
            due.is("0 and " + other, x.judge(1, other), 0);
        }
        due.is("a day takes 1", x.judge(2, 404), 1);
        due.is("a day leaves 3", x.judge(2, 403), NONE);
    }

    @Edge(promise = 19, says = "1, a LADDER, a PLACE: MOVED;")
    static void movedIsJudgedByLadderAndPlace(Due due) {
        UnderLadders x = Due.market("ML010L910");
        for (int ladder = 0; ladder <= 9; ladder++) {
            for (int place = 0; place <= 9; place++) {
                boolean can = ladder < 2 && place != 0 && place != 9;
                due.is("ladder " + ladder + " to " + place, x.judge(1, 100 + 10 * ladder + place), can ? NONE : 0);
            }
        }
        due.is("to the place that the other left", x.judge(2, 105_110L), NONE);
        due.is("to the place that it went to", x.judge(2, 105_115L), 1);
        due.is("and back", x.judge(2, 105_100L), NONE);
    }

    @Edge(promise = 19, says = "2, 0, a LADDER: DOWN;")
    static void downIsJudgedByLadder(Due due) {
        UnderLadders x = Due.market("ML010L110L210L310");
        for (int figures = 0; figures <= 99; figures++) {
            due.is("2 and " + figures, x.judge(1, 200 + figures), figures < 4 ? NONE : 0);
        }
        due.is("no ladder", Due.market("MP0190").judge(1, 200), 0);
    }

    @Edge(promise = 19, says = "2, 0, a LADDER: DOWN;")
    static void whoComesDownBringsNobodyLuck(Due due) {
        UnderLadders x = Due.market("ML010L110L210L310P0100");
        for (int ladder = 0; ladder < 4; ladder++) {
            due.is("down " + ladder + ", then 1 asked for", x.judge(2, 200_401L + 1000 * ladder), 1);
        }
    }

    @Edge(promise = 19, says = "3, a PERSON, a figure (1 to 9): GIVEN;")
    static void givenIsJudgedByPersonAndFigure(Due due) {
        UnderLadders x = Due.market("MP0100P0100P0100P0100P0100");
        for (int figures = 0; figures <= 99; figures++) {
            boolean can = figures / 10 < 5 && figures % 10 > 0;
            due.is("3 and " + figures, x.judge(1, 300 + figures), can ? NONE : 0);
        }
        due.is("what is given is there", x.judge(2, 349_449L), NONE);
        due.is("another has nothing of it", x.judge(2, 349_431L), 1);
        UnderLadders rich = Due.market("MP0100");
        Due.giveInAll(rich, 0, 99);
        due.is("with 99 it can be given too", rich.judge(1, 309), NONE);
    }

    @Edge(promise = 19, says = "4, a PERSON, a figure: it has that or more)")
    static void hasIsJudgedByPersonAndLuck(Due due) {
        UnderLadders x = Due.market("MP0100P0110P0180P0190P0190");
        x.give(4, 1);
        int[] luck = {0, 1, 8, 9, 10};
        for (int figures = 0; figures <= 99; figures++) {
            int person = figures / 10;
            boolean so = person < 5 && luck[person] >= figures % 10;
            due.is("4 and " + figures, x.judge(1, 400 + figures), so ? NONE : 0);
        }
        due.is("where nobody is", Due.market("ML010").judge(1, 400), 0);
    }

    @Edge(promise = 19, says = "told as three figures each")
    static void otherDoingsCanNotBe(Due due) {
        for (int doing = 5; doing <= 9; doing++) {
            UnderLadders x = all();
            for (int figures = 0; figures <= 99; figures++) {
                due.is("doing " + doing + " and " + figures, x.judge(1, 100 * doing + figures), 0);
            }
        }
    }

    @Edge(promise = 19, says = "the place of the first that can not be (or is not so); NONE: none.")
    static void doingsAreDoneOneBehindTheOther(Due due) {
        UnderLadders x = Due.market("ML590P4672");
        due.is("given first", x.judge(2, 302_409L), NONE);
        due.is("asked first", x.judge(2, 409_302L), 0);
        due.is("moved off the way, then a day: 7 are left", x.judge(3, 100_000_407L), NONE);
        due.is("a day, then moved: all is taken", x.judge(3, 100_407L), 2);
        due.is("four in a row", x.judge(4, 100_000_302_409L), NONE);
    }

    @Edge(promise = 19, says = "In what follows nothing is changed.")
    static void judgedDoingsAreNotDone(Due due) {
        UnderLadders x = Due.market("ML590P4672");
        x.day();
        x.judge(4, 100_200_309_000L);
        due.is("place", x.ladder(0, 0), 5);
        due.is("gold and luck", x.ladder(0, 4) * 10 + x.ladder(0, 3), 12);
        due.is("luck", x.person(0, 4), 0);
        due.is("THE DAY", x.count(3), 1);
        due.is("acts", x.count(8), 1);
    }

    @Edge(promise = 19, says = "In what follows nothing is changed.")
    static void aJudgementForgetsTheOneAheadOfIt(Due due) {
        UnderLadders x = oneADay(4);
        due.is("a row of four", x.judge(4, 309_309_309_409L), NONE);
        due.is("4 are there, not 5", x.judge(1, 405), 0);
        due.is("4 are there", x.judge(1, 404), NONE);
    }
}
