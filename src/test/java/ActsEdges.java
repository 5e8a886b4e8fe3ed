/** Promises 9 to 13: a day and all that comes to pass in it, ladders moved, men who come down, luck given, undone. */
final class ActsEdges {
    private static final int UNKNOWN = Due.UNKNOWN, OUTSIDE = Due.OUTSIDE, STATE = Due.STATE, NONE = Due.NONE;

    private ActsEdges() {
    }

    /** One blind person with this luck goes under one ladder (t and kind), once; his luck and gold as 10 gold + luck. */
    private static void under(Due due, String ladder, int luck, int left, int got) {
        UnderLadders x = Due.market("ML4" + ladder + "P3402");
        Due.giveInAll(x, 0, luck);
        x.day();
        due.is("luck left of " + luck + " under " + ladder, x.person(0, 4), left);
        due.is("luck got of " + luck + " under " + ladder, 5 * x.ladder(0, 4) + x.ladder(0, 3), got);
    }

    // ---- promise 9: a day, what a ladder takes

    @Edge(promise = 9, says = "t, or all it has, if that is less")
    static void aPlainLadderTakesTOrAllThereIs(Due due) {
        under(due, "50", 0, 0, 0);
        under(due, "50", 4, 0, 4);
        under(due, "50", 5, 0, 5);
        under(due, "50", 6, 1, 5);
        under(due, "10", 1, 0, 1);
        under(due, "10", 2, 1, 1);
        under(due, "90", 8, 0, 8);
        under(due, "90", 9, 0, 9);
        under(due, "90", 10, 1, 9);
        under(due, "90", 99, 90, 9);
    }

    @Edge(promise = 9, says = "STEEP: half of what it has (cut), but t at most")
    static void aSteepLadderTakesHalfCutButTAtMost(Due due) {
        under(due, "31", 0, 0, 0);
        under(due, "31", 1, 1, 0);
        under(due, "31", 2, 1, 1);
        under(due, "31", 3, 2, 1);
        under(due, "31", 5, 3, 2);
        under(due, "31", 6, 3, 3);
        under(due, "31", 7, 4, 3);
        under(due, "31", 8, 5, 3);
        under(due, "91", 17, 9, 8);
        under(due, "91", 18, 9, 9);
        under(due, "91", 20, 11, 9);
        under(due, "11", 99, 98, 1);
    }

    @Edge(promise = 9, says = "HUNGRY: all it has.")
    static void aHungryLadderTakesAllWhateverItsT(Due due) {
        under(due, "13", 0, 0, 0);
        under(due, "13", 1, 0, 1);
        under(due, "13", 2, 0, 2);
        under(due, "93", 8, 0, 8);
        under(due, "93", 10, 0, 10);
        under(due, "13", 99, 0, 99);
    }

    @Edge(promise = 9, says = "on a BENT one 12 at most (the rest is lost)")
    static void aBentLadderTakesAsAPlainOneDoes(Due due) {
        under(due, "52", 4, 0, 4);
        under(due, "52", 5, 0, 5);
        under(due, "52", 6, 1, 5);
    }

    @Edge(promise = 9, says = "on a BENT one 12 at most (the rest is lost)")
    static void aBentOneHoldsTwelve(Due due) {
        UnderLadders eleven = Due.market("ML492P3492P3422");
        due.is("11: gold", eleven.day(), 2);
        due.is("11: luck", eleven.ladder(0, 3), 1);
        UnderLadders twelve = Due.market("ML492P3492P3432");
        due.is("12: gold", twelve.day(), 2);
        due.is("12: luck", twelve.ladder(0, 3), 2);
        UnderLadders thirteen = Due.market("ML492P3492P3442");
        due.is("13: gold", thirteen.day(), 2);
        due.is("13: luck", thirteen.ladder(0, 3), 2);
        due.is("13: lost by the one who went under", thirteen.person(1, 4), 0);
    }

    @Edge(promise = 9, says = "on a BENT one 12 at most (the rest is lost)")
    static void aBentOneHoldsTwelveWithWhatWasLeft(Due due) {
        UnderLadders x = Due.market("ML492P3492P3492P3492P3492P3492");
        due.is("45 come: gold", x.day(), 2);
        due.is("45 come: luck", x.ladder(0, 3), 2);
        due.is("45 are gone", x.count(4), 0);
        x.day();
        x.give(0, 9);
        x.give(1, 2);
        due.is("2 and 11: gold", x.day(), 2);
        due.is("2 and 11: luck", x.ladder(0, 3), 2);
        due.is("gold is not held down", x.ladder(0, 4), 4);
    }

    @Edge(promise = 9, says = "on a BENT one 12 at most (the rest is lost)")
    static void otherLaddersHoldMoreThanTwelve(Due due) {
        UnderLadders plain = Due.market("ML490P3492P3492P3492P3492P3492");
        due.is("plain", plain.day(), 9);
        UnderLadders steep = Due.market("ML491P3402P3402");
        Due.giveInAll(steep, 0, 18);
        Due.giveInAll(steep, 1, 18);
        due.is("steep", steep.day(), 3);
        due.is("steep: luck", steep.ladder(0, 3), 3);
        UnderLadders hungry = Due.market("ML413P3492P3492P3492P3492P3492");
        due.is("hungry", hungry.day(), 9);
    }

    // ---- promise 9: a day, who goes under

    @Edge(promise = 9, says = "PLAIN: if it has 4 or more LUCK, it steps round, and has 1 less by the mud, else under")
    static void aPlainPersonStepsRoundWithFourAndNotWithThree(Due due) {
        UnderLadders four = Due.market("ML413P3440");
        four.day();
        due.is("4: luck", four.person(0, 4), 3);
        due.is("4: the man's", four.count(5) + four.count(6), 0);
        UnderLadders three = Due.market("ML413P3430");
        three.day();
        due.is("3: luck", three.person(0, 4), 0);
        due.is("3: the man's", three.ladder(0, 3), 3);
        UnderLadders nothing = Due.market("ML413P3400");
        nothing.day();
        due.is("0: luck", nothing.person(0, 4), 0);
    }

    @Edge(promise = 9, says = "PLAIN: if it has 4 or more LUCK, it steps round, and has 1 less by the mud, else under")
    static void aPlainPersonLooksAtItsLuckAtEachLadder(Due due) {
        UnderLadders x = Due.market("ML410L520L610P3950");
        x.day();
        // 5 round: 4; round: 3; under the third: 2.
        due.is("luck", x.person(0, 4), 2);
        due.is("first", x.ladder(0, 3), 0);
        due.is("second", x.ladder(1, 3), 0);
        due.is("third", x.ladder(2, 3), 1);
    }

    @Edge(promise = 9, says = "CAREFUL: round, 1 less (0 at least)")
    static void aCarefulPersonHasNothingAtLeast(Due due) {
        UnderLadders x = Due.market("ML493P3421");
        int[] want = {1, 1, 0, 0, 0, 0};
        for (int day = 0; day < want.length; day++) {
            x.day();
            due.is("luck behind day " + day, x.person(0, 4), want[day]);
        }
        due.is("the man's", x.count(5) + x.count(6), 0);
        UnderLadders two = Due.market("ML413L513P3621");
        two.day();
        due.is("2, two ladders", two.person(0, 4), 0);
        UnderLadders one = Due.market("ML413L513P3611");
        one.day();
        due.is("1, two ladders", one.person(0, 4), 0);
        UnderLadders none = Due.market("ML413L513P3601");
        none.day();
        due.is("0, two ladders", none.person(0, 4), 0);
        UnderLadders three = Due.market("ML413L513P3631");
        three.day();
        due.is("3, two ladders", three.person(0, 4), 1);
    }

    @Edge(promise = 9, says = "BLIND: under")
    static void aBlindPersonGoesUnderWhateverItHas(Due due) {
        under(due, "20", 3, 1, 2);
        under(due, "20", 4, 2, 2);
        under(due, "20", 99, 97, 2);
    }

    @Edge(promise = 9, says = "CHILD: under, and has 1 LUCK more behind it (99 at most)")
    static void aChildIsPaidBehindEachLadder(Due due) {
        UnderLadders nothing = Due.market("ML413P3403");
        nothing.day();
        due.is("0: it has nothing to lose", nothing.person(0, 4), 1);
        due.is("0: the man has nothing", nothing.ladder(0, 3), 0);
        UnderLadders two = Due.market("ML413L513P3603");
        two.day();
        due.is("two ladders: 1, which the second takes", two.person(0, 4), 1);
        due.is("the second has it", two.ladder(1, 3), 1);
        UnderLadders steep = Due.market("ML491P3413");
        steep.day();
        due.is("steep, 1: half of it is nothing", steep.person(0, 4), 2);
        UnderLadders rich = Due.market("ML420P3493");
        rich.day();
        due.is("9: under, not round", rich.person(0, 4), 8);
        due.is("9: the man's", rich.ladder(0, 3), 2);
    }

    @Edge(promise = 9, says = "CHILD: under, and has 1 LUCK more behind it (99 at most)")
    static void aChildHasNinetyNineAtMost(Due due) {
        UnderLadders x = Due.market("ML410L510P3603");
        Due.giveInAll(x, 0, 99);
        x.day();
        due.is("99 by two ladders of 1", x.person(0, 4), 99);
        due.is("first", x.ladder(0, 3), 1);
        due.is("second", x.ladder(1, 3), 1);
    }

    // ---- promise 9: a day, the way

    @Edge(promise = 9, says = "it comes to each PLACE on its way but the one where it begins, the last one, too")
    static void theLastPlaceOfAWayCountsAndNotTheFirst(Due due) {
        UnderLadders x = Due.market("ML310L710P3792");
        x.day();
        due.is("there: at the first place", x.ladder(0, 3), 0);
        due.is("there: at the last place", x.ladder(1, 3), 1);
        x.day();
        due.is("back: at the last place", x.ladder(0, 3), 1);
        due.is("back: at the first place", x.ladder(1, 3), 1);
    }

    @Edge(promise = 9, says = "PLACES are 0 to 9 in a street.")
    static void aWayGoesFromOneEndOfTheStreetToTheOther(Due due) {
        UnderLadders x = Due.market("ML010L110L810L910P0992P9092");
        x.day();
        due.is("at 0", x.ladder(0, 3), 1);
        due.is("at 1", x.ladder(1, 3), 2);
        due.is("at 8", x.ladder(2, 3), 2);
        due.is("at 9", x.ladder(3, 3), 1);
        due.is("upwards: at 9", x.person(0, 3), 9);
        due.is("downwards: at 0", x.person(1, 3), 0);
        x.day();
        due.is("at 0 again", x.person(0, 3), 0);
        due.is("at 9 again", x.person(1, 3), 9);
        due.is("luck of all men", x.count(5) + 5 * x.count(6), 12);
    }

    @Edge(promise = 9, says = "one at HOME goes to WORK, one elsewhere goes HOME.")
    static void allGoToWorkAndHomeByTurns(Due due) {
        UnderLadders x = Due.market("MP0190P9850");
        int[] home = {3, 0, 3, 0};
        for (int day = 0; day < home.length; day++) {
            due.is("who is at home on day " + day, x.count(7), home[day]);
            x.day();
        }
        UnderLadders nobody = Due.market("ML010");
        due.is("nobody goes", nobody.day(), 0);
        due.is("the day is over all the same", nobody.count(3), 1);
    }

    @Edge(promise = 9, says = "it comes to each PLACE on its way")
    static void laddersAreComeToInTheOrderOfTheWay(Due due) {
        UnderLadders x = Due.market("ML713L513P4892P8490");
        x.day();
        due.is("upwards, place 5 comes first", x.ladder(1, 4) * 10 + x.ladder(1, 3), 14);
        due.is("upwards, place 7 has nothing", x.ladder(0, 4) * 10 + x.ladder(0, 3), 0);
        UnderLadders y = Due.market("ML513L713P8492");
        y.day();
        due.is("downwards, place 7 comes first", y.ladder(1, 4) * 10 + y.ladder(1, 3), 14);
        due.is("downwards, place 5 has nothing", y.ladder(0, 4) * 10 + y.ladder(0, 3), 0);
    }

    // ---- promise 9: a day, gold

    @Edge(promise = 9, says = "for each 5 of LUCK that he has 1 GOLD more, and so much less LUCK")
    static void fiveOfLuckAreOneOfGold(Due due) {
        int[] gold = {0, 0, 0, 0, 0, 1, 1, 1, 1, 1};
        for (int luck = 0; luck <= 9; luck++) {
            UnderLadders x = Due.market("ML490P34" + luck + "2");
            due.is("got by " + luck, x.day(), gold[luck]);
            due.is("gold by " + luck, x.ladder(0, 4), gold[luck]);
            due.is("luck left of " + luck, x.ladder(0, 3), luck - 5 * gold[luck]);
        }
        UnderLadders ten = Due.market("ML490P3492P3412");
        due.is("got by 10", ten.day(), 2);
        due.is("luck left of 10", ten.ladder(0, 3), 0);
        UnderLadders most = Due.market("ML413P3402P3402P3402P3402P3402");
        for (int person = 0; person < 5; person++) {
            Due.giveInAll(most, person, 99);
        }
        due.is("got by 495", most.day(), 99);
    }

    @Edge(promise = 9, says = "GOLD that all men got in it.")
    static void theGoldOfADayIsThatOfAllMenAndNotWhatTheyHad(Due due) {
        UnderLadders x = Due.market("ML450L650P3492P7692");
        due.is("two men", x.day(), 2);
        due.is("nothing is got on the way back", x.day(), 0);
        due.is("4 each, no gold", x.day(), 0);
        due.is("they have", x.count(6), 2);
        due.is("their luck", x.count(5), 8);
    }

    @Edge(promise = 9, says = "A DAY, in this order: (a) PEOPLE by number")
    static void goldIsMadeWhenAllHaveGone(Due due) {
        // By a man who made gold between the two, 9 would be 1 and 4, and 4 with 9 would be 2 and 2 more.
        UnderLadders x = Due.market("ML492P3492P3492");
        due.is("gold", x.day(), 2);
        due.is("luck", x.ladder(0, 3), 2);
    }

    @Edge(promise = 9, says = "THE DAY is one more.")
    static void theDayIsOneMore(Due due) {
        UnderLadders x = Due.market("M");
        for (int day = 1; day <= 40; day++) {
            x.day();
            due.is("THE DAY", x.count(3), day);
        }
    }

    // ---- promise 10: move

    @Edge(promise = 10, says = "there is no such LADDER, PERSON, PLACE (0 to 9), SLOT")
    static void theLastLadderIsMovedAndNoOther(Due due) {
        UnderLadders x = Due.market("ML010L110L210L310");
        due.is("first", x.move(0, 9), 0);
        due.is("last", x.move(3, 8), 3);
        int[] beyond = {-1, 4, Integer.MIN_VALUE, Integer.MAX_VALUE};
        for (int ladder : beyond) {
            due.is("ladder " + ladder, x.move(ladder, 5), UNKNOWN);
        }
        due.is("acts", x.count(8), 2);
        due.is("nothing is at 5", x.at(5), NONE);
        due.is("no ladder at all", Due.market("M").move(0, 5), UNKNOWN);
    }

    @Edge(promise = 10, says = "UNKNOWN: both; STATE: a LADDER is there.")
    static void aLadderIsMovedToTheFirstAndTheLastPlace(Due due) {
        UnderLadders x = Due.market("ML510");
        due.is("to 0", x.move(0, 0), 5);
        due.is("to 9", x.move(0, 9), 0);
        int[] beyond = {-1, 10, Integer.MIN_VALUE, Integer.MAX_VALUE};
        for (int place : beyond) {
            due.is("to " + place, x.move(0, place), UNKNOWN);
        }
        due.is("it stands at 9", x.ladder(0, 0), 9);
        due.is("acts", x.count(8), 2);
    }

    @Edge(promise = 10, says = "UNKNOWN: both; STATE: a LADDER is there.")
    static void anUnknownLadderComesAheadOfState(Due due) {
        UnderLadders x = Due.market("ML510");
        due.is("to where one is", x.move(1, 5), UNKNOWN);
        due.is("neither is known", x.move(1, 10), UNKNOWN);
        due.is("below, to where one is", x.move(-1, 5), UNKNOWN);
    }

    @Edge(promise = 10, says = "MOVED: a LADDER is at another PLACE where none is.")
    static void aLadderIsNotMovedToWhereOneIs(Due due) {
        UnderLadders x = Due.market("ML010L910L410");
        for (int ladder = 0; ladder < 3; ladder++) {
            due.is("to 0", x.move(ladder, 0), STATE);
            due.is("to 4", x.move(ladder, 4), STATE);
            due.is("to 9", x.move(ladder, 9), STATE);
        }
        due.is("no act", x.count(8), 0);
        due.is("at 0", x.at(0), 0);
        due.is("at 4", x.at(4), 2);
        due.is("at 9", x.at(9), 1);
    }

    @Edge(promise = 10, says = "MOVED: a LADDER is at another PLACE where none is.")
    static void thePlaceThatWasLeftIsFree(Due due) {
        UnderLadders x = Due.market("ML010L910");
        x.move(0, 5);
        due.is("the other goes there", x.move(1, 0), 9);
        due.is("and back to where the other was", x.move(0, 9), 5);
        due.is("at 0", x.at(0), 1);
        due.is("at 9", x.at(9), 0);
    }

    @Edge(promise = 10, says = "MOVED: where it was.")
    static void theManOnAMovedLadderKeepsWhatHeHas(Due due) {
        UnderLadders x = Due.market("ML590P4672");
        x.day();
        x.move(0, 0);
        due.is("luck", x.ladder(0, 3), 2);
        due.is("gold", x.ladder(0, 4), 1);
    }

    // ---- promise 11: down

    @Edge(promise = 11, says = "DOWN: the man on a LADDER comes down, another one goes up: no LUCK, no GOLD.")
    static void aManWithNothingComesDownToo(Due due) {
        UnderLadders x = Due.market("ML590P4672");
        due.is("nothing", x.down(0), 0);
        due.is("an act", x.count(8), 1);
        x.day();
        due.is("gold", x.down(0), 1);
        due.is("luck of the next", x.ladder(0, 3), 0);
        due.is("gold of the next", x.ladder(0, 4), 0);
        due.is("an act", x.count(8), 3);
    }

    @Edge(promise = 11, says = "DOWN: GOLD that he had. UNKNOWN.")
    static void theManOnTheLastLadderComesDownAndNoOther(Due due) {
        UnderLadders x = Due.market("ML010L110L210L390P2792");
        x.day();
        int[] beyond = {-1, 4, Integer.MIN_VALUE, Integer.MAX_VALUE};
        for (int ladder : beyond) {
            due.is("down " + ladder, x.down(ladder), UNKNOWN);
        }
        due.is("acts", x.count(8), 1);
        due.is("first", x.down(0), 0);
        due.is("others keep what they have", x.ladder(3, 4) * 10 + x.ladder(3, 3), 14);
        due.is("last", x.down(3), 1);
        due.is("no ladder at all", Due.market("M").down(0), UNKNOWN);
    }

    // ---- promise 12: give

    @Edge(promise = 12, says = "UNKNOWN; OUTSIDE: n (1 to 9).")
    static void oneToNineAreGiven(Due due) {
        UnderLadders x = Due.market("MP0100");
        due.is("1", x.give(0, 1), 1);
        due.is("9", x.give(0, 9), 10);
        int[] beyond = {0, 10, -1, Integer.MIN_VALUE, Integer.MAX_VALUE};
        for (int n : beyond) {
            due.is("give " + n, x.give(0, n), OUTSIDE);
        }
        due.is("luck", x.person(0, 4), 10);
        due.is("acts", x.count(8), 2);
    }

    @Edge(promise = 12, says = "GIVEN: its LUCK then. UNKNOWN")
    static void theLastPersonIsGivenAndNoOther(Due due) {
        UnderLadders x = Due.market("MP0100P0100P0100P0100P0100");
        due.is("first", x.give(0, 2), 2);
        due.is("last", x.give(4, 3), 3);
        int[] beyond = {-1, 5, Integer.MIN_VALUE, Integer.MAX_VALUE};
        for (int person : beyond) {
            due.is("person " + person, x.give(person, 1), UNKNOWN);
        }
        due.is("luck of all", x.count(4), 5);
        due.is("acts", x.count(8), 2);
        due.is("nobody at all", Due.market("M").give(0, 1), UNKNOWN);
    }

    @Edge(promise = 12, says = "UNKNOWN; OUTSIDE: n (1 to 9).")
    static void anUnknownPersonComesAheadOfTheNumber(Due due) {
        UnderLadders x = Due.market("MP0100");
        due.is("0 to nobody", x.give(1, 0), UNKNOWN);
        due.is("10 to nobody", x.give(-1, 10), UNKNOWN);
    }

    @Edge(promise = 12, says = "GIVEN: a PERSON has n more LUCK (99 at most).")
    static void aPersonIsGivenUpToNinetyNine(Due due) {
        UnderLadders x = Due.market("MP0100");
        Due.giveInAll(x, 0, 90);
        due.is("90 and 8", x.give(0, 8), 98);
        due.is("98 and 1", x.give(0, 1), 99);
        due.is("99 and 1", x.give(0, 1), 99);
        due.is("99 and 9", x.give(0, 9), 99);
        due.is("an act all the same", x.count(8), 14);
        UnderLadders y = Due.market("MP0100");
        Due.giveInAll(y, 0, 90);
        due.is("90 and 9", y.give(0, 9), 99);
        y.undo();
        y.give(0, 1);
        due.is("91 and 9", y.give(0, 9), 99);
        due.is("undone", y.undo() * 0 + y.person(0, 4), 91);
    }

    // ---- promise 13: undo

    @Edge(promise = 13, says = "STATE: there is none.")
    static void nothingIsUndoneWhereNoActIs(Due due) {
        UnderLadders x = Due.market("ML590P4672");
        due.is("no act yet", x.undo(), STATE);
        x.day();
        due.is("the one act", x.undo(), 0);
        due.is("no act left", x.undo(), STATE);
        due.is("THE DAY", x.count(3), 0);
        due.is("luck", x.person(0, 4), 7);
    }

    @Edge(promise = 13, says = "ACTS (DAYS, MOVED, DOWN, GIVEN) are a row (14 at most; of more the first one is forgotten)")
    static void fourteenActsAreAllUndone(Due due) {
        UnderLadders x = Due.market("MP0100");
        for (int i = 1; i <= 14; i++) {
            x.give(0, 1);
            due.is("acts", x.count(8), i);
        }
        for (int left = 13; left >= 0; left--) {
            due.is("undo", x.undo(), left);
            due.is("luck", x.person(0, 4), left);
        }
        due.is("none left", x.undo(), STATE);
    }

    @Edge(promise = 13, says = "ACTS (DAYS, MOVED, DOWN, GIVEN) are a row (14 at most; of more the first one is forgotten)")
    static void ofFifteenActsTheFirstIsForgotten(Due due) {
        UnderLadders x = Due.market("MP0100");
        for (int i = 0; i < 15; i++) {
            x.give(0, 1);
        }
        due.is("acts", x.count(8), 14);
        for (int left = 13; left >= 0; left--) {
            due.is("undo", x.undo(), left);
            due.is("luck", x.person(0, 4), left + 1);
        }
        due.is("the first is forgotten", x.undo(), STATE);
        due.is("it stays given", x.person(0, 4), 1);
    }

    @Edge(promise = 13, says = "of more the first one is forgotten); the last one can be undone")
    static void theRowGoesRoundManyTimes(Due due) {
        UnderLadders x = Due.market("MP0100");
        for (int i = 0; i < 50; i++) {
            x.give(0, 1);
        }
        for (int i = 0; i < 5; i++) {
            x.undo();
        }
        due.is("luck", x.person(0, 4), 45);
        for (int i = 0; i < 6; i++) {
            x.give(0, 1);
        }
        due.is("acts", x.count(8), 14);
        for (int left = 13; left >= 0; left--) {
            due.is("undo", x.undo(), left);
            due.is("luck", x.person(0, 4), 37 + left);
        }
        due.is("none left", x.undo(), STATE);
    }

    @Edge(promise = 13, says = "ACTS (DAYS, MOVED, DOWN, GIVEN) are a row")
    static void eachKindOfActIsUndone(Due due) {
        UnderLadders x = Due.market("ML590P4672");
        x.day();
        x.move(0, 0);
        x.down(0);
        x.give(0, 9);
        due.is("given undone", x.undo(), 3);
        due.is("luck", x.person(0, 4), 0);
        due.is("down undone", x.undo(), 2);
        due.is("gold and luck", x.ladder(0, 4) * 10 + x.ladder(0, 3), 12);
        due.is("moved undone", x.undo(), 1);
        due.is("place", x.ladder(0, 0), 5);
        due.is("at 5", x.at(5), 0);
        due.is("at 0", x.at(0), NONE);
        due.is("day undone", x.undo(), 0);
        due.is("where", x.person(0, 3), 4);
        due.is("luck", x.person(0, 4), 7);
        due.is("gold and luck", x.ladder(0, 4) * 10 + x.ladder(0, 3), 0);
        due.is("THE DAY", x.count(3), 0);
    }

    @Edge(promise = 13, says = "ACTS (DAYS, MOVED, DOWN, GIVEN) are a row")
    static void otherCallsAreNoActs(Due due) {
        UnderLadders x = Due.market("ML590P4672");
        x.give(0, 1);
        x.write('L');
        x.wipe();
        x.see(3, 1);
        x.unsee();
        x.seed(5);
        x.years(3);
        x.keep(0);
        x.luck(0, 5);
        x.judge(1, 0);
        due.is("acts", x.count(8), 1);
        due.is("undo", x.undo(), 0);
        due.is("luck", x.person(0, 4), 7);
        due.is("the seed is not undone", x.seed(0) == 5 ? 1 : 0, 0);
        due.is("the text is not undone", x.count(0), 0);
        due.is("what was kept is not undone", x.again(0), 0);
        due.is("luck as it was kept", x.person(0, 4), 8);
    }
}
