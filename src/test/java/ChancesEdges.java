/** Promises 23 to 27: shares, rests, chances, the seed and years by it. */
final class ChancesEdges {
    private static final int UNKNOWN = Due.UNKNOWN, OUTSIDE = Due.OUTSIDE, NONE = Due.NONE;
    private static final int[] NOBODY = {-1, 5, Integer.MIN_VALUE, Integer.MAX_VALUE};
    private static final int[] NO_LADDER = {-1, 4, Integer.MIN_VALUE, Integer.MAX_VALUE};

    private ChancesEdges() {
    }

    private static UnderLadders all() {
        return Due.market("ML010L110L210L310P0490P0490P0490P0490P0490");
    }

    // ---- promise 23: share

    private static void share(Due due, UnderLadders x, int person, int above, int below) {
        due.fraction("share of " + person, x.share(person, 0, true), x.share(person, 0, false), above, below);
    }

    @Edge(promise = 23, says = "SHARE of a PERSON for a LADDER")
    static void oneAloneHasAllOrNothing(Due due) {
        share(due, Due.market("ML590P4672"), 0, 1, 1);
        share(due, Due.market("ML590P4642"), 0, 0, 1);
        share(due, Due.market("ML590P0192"), 0, 0, 1);
        share(due, Due.market("ML590P4602"), 0, 0, 1);
    }

    @Edge(promise = 23, says = "if PEOPLE come one by one, in each order as likely")
    static void fiveLikeOnesHaveAFifthEach(Due due) {
        UnderLadders x = Due.market("ML490P3412P3412P3412P3412P3412");
        for (int person = 0; person < 5; person++) {
            share(due, x, person, 1, 5);
        }
        // 9 luck by five of 2: the third to come makes 5, the fifth 10.
        UnderLadders y = Due.market("ML490P3422P3422P3422P3422P3422");
        for (int person = 0; person < 5; person++) {
            share(due, y, person, 2, 5);
        }
    }

    @Edge(promise = 23, says = "if PEOPLE come one by one, in each order as likely")
    static void theOrderOfComingMatters(Due due) {
        // 4 with 1 are 5; 1 with 1 are not: the 4 has what is more unless it comes first.
        UnderLadders x = Due.market("ML490P3442P3412P3412");
        share(due, x, 0, 2, 3);
        share(due, x, 1, 1, 6);
        share(due, x, 2, 1, 6);
    }

    @Edge(promise = {5, 23}, says = "if PEOPLE come one by one, in each order as likely")
    static void peopleOfAnEarlierMarketDoNotCome(Due due) {
        UnderLadders x = Due.market("ML490P3452P3452P3452P3452P3452");
        share(due, x, 0, 1, 1);
        Due.write(x, "ML490P3452");
        x.market();
        share(due, x, 0, 1, 1);
        Due.write(x, "ML490P3432P3422");
        x.market();
        share(due, x, 0, 1, 2);
    }

    @Edge(promise = 23, says = "in least terms")
    static void sharesAreToldInLeastTerms(Due due) {
        UnderLadders halves = Due.market("ML490P3432P3422");
        share(due, halves, 0, 1, 2);
        share(due, halves, 1, 1, 2);
        UnderLadders wholes = Due.market("ML490P3452P3452P3452P3452P3452");
        for (int person = 0; person < 5; person++) {
            share(due, wholes, person, 1, 1);
        }
    }

    @Edge(promise = 23, says = "by how much in the mean GOLD of its man in 6 DAYS is more when it has come than it was")
    static void sharesAreOfSixDays(Due due) {
        UnderLadders x = Due.market("ML450P3502");
        Due.giveInAll(x, 0, 99);
        share(due, x, 0, 6, 1);
    }

    @Edge(promise = 23, says = "by how much in the mean GOLD of its man in 6 DAYS is more when it has come than it was")
    static void goldThatHeHasIsNobodysShare(Due due) {
        UnderLadders x = Due.market("ML490P3492P3412P3412");
        x.day();
        // 11 luck: 2 gold, and 1 left; all are at work with nothing.
        share(due, x, 0, 0, 1);
        x.give(0, 4);
        x.day();
        // With 4 more luck that he has, 5 are there: all of it is brought by the one.
        share(due, x, 0, 1, 1);
        share(due, x, 1, 0, 1);
    }

    @Edge(promise = 23, says = "(others stay where they are)")
    static void whoHasNotComeStaysAtWorkToo(Due due) {
        // At work, at 4, beside the ladder at 3: the way home goes under it.
        UnderLadders x = Due.market("ML330P2402P2402");
        x.day();
        x.give(0, 3);
        x.give(1, 2);
        share(due, x, 0, 1, 2);
        share(due, x, 1, 1, 2);
        due.is("who is at home", x.count(7), 0);
    }

    @Edge(promise = 23, says = "SHARE. UNKNOWN: both.")
    static void sharesOfTheLastPersonAndLadderAndOfNoOther(Due due) {
        UnderLadders x = all();
        due.is("last of both", x.share(4, 3, false), 1);
        for (int upper = 0; upper <= 1; upper++) {
            for (int person : NOBODY) {
                due.is("person " + person, x.share(person, 0, upper == 1), UNKNOWN);
            }
            for (int ladder : NO_LADDER) {
                due.is("ladder " + ladder, x.share(0, ladder, upper == 1), UNKNOWN);
            }
            due.is("neither", x.share(5, 4, upper == 1), UNKNOWN);
            due.is("nobody", Due.market("ML010").share(0, 0, upper == 1), UNKNOWN);
            due.is("no ladder", Due.market("MP0190").share(0, 0, upper == 1), UNKNOWN);
        }
    }

    @Edge(promise = 23, says = "In what follows nothing is changed.")
    static void nobodyComesYet(Due due) {
        UnderLadders x = Due.market("ML490P3432P3422");
        x.share(0, 0, true);
        due.is("THE DAY", x.count(3), 0);
        due.is("luck", x.count(4), 5);
        due.is("luck of men", x.count(5), 0);
        due.is("at home", x.count(7), 3);
        due.is("acts", x.count(8), 0);
    }

    // ---- promise 24: rests

    private static void rests(Due due, UnderLadders x, int one, int other, int howMany, int first) {
        due.is("rests of " + one + " and " + other + ", how many", x.rests(one, other, 0), howMany);
        due.is("rests of " + one + " and " + other + ", the first", x.rests(one, other, 1), first);
    }

    @Edge(promise = 24, says = "each is from now on at its own PLACE, or at one where no LADDER is now, the two at different ones")
    static void whereNobodyComesAllPairsRest(Due due) {
        // 9 places for each, less the 8 free ones where both would be.
        rests(due, Due.market("ML010L110"), 0, 1, 73, 1);
        rests(due, Due.market("ML010L110"), 1, 0, 73, 10);
        rests(due, Due.market("ML910L010"), 0, 1, 73, 10);
        rests(due, Due.market("ML810L910"), 0, 1, 73, 1);
    }

    @Edge(promise = 24, says = "each is from now on at its own PLACE, or at one where no LADDER is now, the two at different ones")
    static void placesOfOtherLaddersAreNotForThem(Due due) {
        rests(due, Due.market("ML010L110L210"), 0, 1, 8 * 8 - 7, 1);
        UnderLadders x = Due.market("ML010L110L210L310");
        rests(due, x, 0, 1, 7 * 7 - 6, 1);
        rests(due, x, 2, 3, 7 * 7 - 6, 23);
        rests(due, x, 3, 2, 7 * 7 - 6, 32);
        rests(due, x, 3, 0, 7 * 7 - 6, 30);
    }

    @Edge(promise = 24, says = "neither has more by another such PLACE (but that of the other one) alone")
    static void onePlaceThatBothWant(Due due) {
        // Only who stands at 1 has gold: it stays there, and the other one may be wherever it can.
        UnderLadders x = Due.market("ML513L613P0192");
        rests(due, x, 0, 1, 16, 1);
        // Where the first one is at 1 now, the second may not go there: the first has its gold at 1, on the first
        // day, with the second at any of 9 places, or at 0, on the second day, with the second at any of 8.
        UnderLadders y = Due.market("ML113L613P0192");
        rests(due, y, 0, 1, 17, 2);
        rests(due, y, 1, 0, 17, 1);
    }

    @Edge(promise = 24, says = "neither has more by another such PLACE (but that of the other one) alone")
    static void thePlacesAtTheEndsOfTheStreetAreWantedToo(Due due) {
        // By 5 each, 99 luck: 0 is come to on the odd days, 1 on the even ones: 3 gold each, nothing elsewhere.
        UnderLadders left = Due.market("ML850L950P1002");
        Due.giveInAll(left, 0, 99);
        rests(due, left, 0, 1, 2, 1);
        UnderLadders right = Due.market("ML050L150P8902");
        Due.giveInAll(right, 0, 99);
        rests(due, right, 0, 1, 2, 89);
    }

    @Edge(promise = 24, says = "each has GOLD of its man in 6 DAYS")
    static void theLastOfFivePeopleComesToThem(Due due) {
        UnderLadders x = Due.market("ML050L950P7802P7802P7802P7802P3402");
        Due.giveInAll(x, 4, 99);
        rests(due, x, 0, 1, 2, 34);
    }

    @Edge(promise = 24, says = "In what follows nothing is changed.")
    static void aQuestionForgetsTheOneAheadOfIt(Due due) {
        // The third one stands where most gold is, and where the two others can not be.
        for (int one = 0; one < 3; one++) {
            for (int other = 0; other < 3; other++) {
                UnderLadders x = Due.market("ML050L850L490P3502P1002");
                Due.giveInAll(x, 0, 99);
                Due.giveInAll(x, 1, 99);
                int[] fresh = {x.rests(0, 1, 0), x.rests(0, 1, 1)};
                x.rests(one, other, 0);
                rests(due, x, 0, 1, fresh[0], fresh[1]);
            }
        }
    }

    @Edge(promise = 24, says = "each has GOLD of its man in 6 DAYS")
    static void restsAreOfSixDays(Due due) {
        // Place 4 is come to on all six days, 5 on the odd ones, 3 on the even ones.
        UnderLadders two = Due.market("ML020L920P3502");
        Due.giveInAll(two, 0, 99);
        // By 2 each: 4 has 12; 5 has 6 (in five days too); 3 has 6 (in five days 4, no gold).
        rests(due, two, 0, 1, 4, 34);
        UnderLadders three = Due.market("ML030L930P3502");
        Due.giveInAll(three, 0, 99);
        // By 3 each: 4 has 18; 5 has 9 (in seven days 12: more gold than at 3); 3 has 9.
        rests(due, three, 0, 1, 4, 34);
    }

    @Edge(promise = 24, says = "how many; the first (10 times the one and the other); NONE.")
    static void theseTwoNeverRest(Due due) {
        UnderLadders x = Due.market("ML822L240P8493P5740");
        rests(due, x, 0, 1, 0, NONE);
        rests(due, x, 1, 0, 0, NONE);
    }

    @Edge(promise = 24, says = "UNKNOWN: both; OUTSIDE: both are one, what.")
    static void restsOfTheLastLadderAndOfNoOther(Due due) {
        UnderLadders x = all();
        due.yes("0 and 3", x.rests(0, 3, 0) >= 0);
        due.yes("3 and 0", x.rests(3, 0, 0) >= 0);
        for (int ladder : NO_LADDER) {
            due.is("one is " + ladder, x.rests(ladder, 0, 0), UNKNOWN);
            due.is("other is " + ladder, x.rests(0, ladder, 0), UNKNOWN);
            due.is("both are " + ladder, x.rests(ladder, ladder, 0), UNKNOWN);
            due.is("one is " + ladder + ", no such what", x.rests(ladder, 0, 2), UNKNOWN);
            due.is("other is " + ladder + ", no such what", x.rests(0, ladder, -1), UNKNOWN);
        }
        due.is("where no ladder is", Due.market("MP0190").rests(0, 1, 0), UNKNOWN);
        due.is("where one ladder is", Due.market("ML010").rests(0, 1, 0), UNKNOWN);
    }

    @Edge(promise = 24, says = "OUTSIDE: both are one, what.")
    static void oneLadderIsNotTwoAndWhatIsZeroOrOne(Due due) {
        UnderLadders x = all();
        for (int ladder = 0; ladder < 4; ladder++) {
            due.is("both are " + ladder, x.rests(ladder, ladder, 0), OUTSIDE);
            due.is("both are " + ladder + ", the first", x.rests(ladder, ladder, 1), OUTSIDE);
        }
        int[] beyond = {-1, 2, Integer.MIN_VALUE, Integer.MAX_VALUE};
        for (int what : beyond) {
            due.is("what " + what, x.rests(0, 1, what), OUTSIDE);
        }
    }

    @Edge(promise = 24, says = "In what follows nothing is changed.")
    static void theTwoStayWhereTheyAre(Due due) {
        UnderLadders x = Due.market("ML513L613P0192");
        x.rests(0, 1, 0);
        due.is("at 5", x.at(5), 0);
        due.is("at 6", x.at(6), 1);
        due.is("at 9", x.at(9), NONE);
        due.is("THE DAY", x.count(3), 0);
        due.is("acts", x.count(8), 0);
        due.is("luck", x.count(4), 9);
    }

    // ---- promise 25: stays

    private static void stays(Due due, UnderLadders x, int m, int tenths, int above, int below) {
        due.fraction("gold " + m + " by " + tenths + " tenths", x.stays(0, m, tenths, true),
                x.stays(0, m, tenths, false), above, below);
    }

    @Edge(promise = 25, says = "each PERSON stays where it is on the next DAY by x tenths (0 to 10), by itself")
    static void byNoTenthsAllGoAndByTenAllStay(Due due) {
        UnderLadders x = Due.market("ML490P3452P3452");
        stays(due, x, 2, 0, 1, 1);
        stays(due, x, 3, 0, 0, 1);
        stays(due, x, 1, 10, 0, 1);
        stays(due, x, 0, 10, 1, 1);
        stays(due, x, 2, 1, 81, 100);
        stays(due, x, 2, 9, 1, 100);
        stays(due, x, 1, 9, 19, 100);
    }

    @Edge(promise = 25, says = "each PERSON stays where it is on the next DAY by x tenths (0 to 10), by itself")
    static void fiveStayOrGoEachByItself(Due due) {
        UnderLadders x = Due.market("ML490P3452P3452P3452P3452P3452");
        stays(due, x, 5, 1, 59049, 100000);
        stays(due, x, 5, 9, 1, 100000);
        stays(due, x, 1, 9, 40951, 100000);
        stays(due, x, 5, 5, 1, 32);
        stays(due, x, 3, 5, 1, 2);
        stays(due, x, 6, 0, 0, 1);
    }

    @Edge(promise = 25, says = "that the man on a LADDER has GOLD m (0 to 60) or more behind it")
    static void goldOfNothingToSixtyIsAskedFor(Due due) {
        UnderLadders x = Due.market("ML413P3402");
        for (int i = 0; i < 3; i++) {
            Due.giveInAll(x, 0, 99);
            Due.days(x, 2);
        }
        due.is("59 gold, 2 luck", x.ladder(0, 4) * 10 + x.ladder(0, 3), 592);
        stays(due, x, 59, 10, 1, 1);
        stays(due, x, 60, 0, 0, 1);
        x.give(0, 3);
        stays(due, x, 60, 10, 0, 1);
        stays(due, x, 60, 3, 7, 10);
        x.day();
        stays(due, x, 60, 10, 1, 1);
        stays(due, x, 0, 10, 1, 1);
    }

    @Edge(promise = 25, says = "HOME by chance. UNKNOWN; OUTSIDE: m, x.")
    static void mIsZeroToSixtyAndXIsZeroToTen(Due due) {
        UnderLadders x = Due.market("ML490P3452");
        int[] noM = {-1, 61, Integer.MIN_VALUE, Integer.MAX_VALUE};
        int[] noX = {-1, 11, Integer.MIN_VALUE, Integer.MAX_VALUE};
        for (int upper = 0; upper <= 1; upper++) {
            for (int m : noM) {
                due.is("m " + m, x.stays(0, m, 5, upper == 1), OUTSIDE);
            }
            for (int tenths : noX) {
                due.is("x " + tenths, x.stays(0, 1, tenths, upper == 1), OUTSIDE);
            }
            due.is("neither", x.stays(0, 61, 11, upper == 1), OUTSIDE);
        }
    }

    @Edge(promise = 25, says = "HOME by chance. UNKNOWN; OUTSIDE: m, x.")
    static void staysForTheLastLadderAndForNoOther(Due due) {
        UnderLadders x = all();
        due.is("last", x.stays(3, 0, 0, true), 1);
        for (int upper = 0; upper <= 1; upper++) {
            for (int ladder : NO_LADDER) {
                due.is("ladder " + ladder, x.stays(ladder, 0, 0, upper == 1), UNKNOWN);
                due.is("ladder " + ladder + ", no such m", x.stays(ladder, 61, 0, upper == 1), UNKNOWN);
                due.is("ladder " + ladder + ", no such x", x.stays(ladder, 0, -1, upper == 1), UNKNOWN);
            }
            due.is("where no ladder is", Due.market("MP0190").stays(0, 0, 0, upper == 1), UNKNOWN);
        }
    }

    @Edge(promise = 25, says = "FRACTIONS are told above (upper = true; below 0, if they are), below (1 and more), in least terms")
    static void whereNobodyIsItIsSureOrNot(Due due) {
        UnderLadders x = Due.market("ML490");
        for (int tenths = 0; tenths <= 10; tenths++) {
            stays(due, x, 0, tenths, 1, 1);
            stays(due, x, 1, tenths, 0, 1);
        }
    }

    @Edge(promise = 25, says = "each PERSON stays where it is on the next DAY")
    static void whoIsAtWorkStaysThere(Due due) {
        UnderLadders x = Due.market("ML390P3492");
        x.day();
        // Its way home ends under the ladder; it has 9, which are 1 gold.
        stays(due, x, 1, 4, 3, 5);
        stays(due, x, 2, 0, 0, 1);
    }

    @Edge(promise = 25, says = "In what follows nothing is changed.")
    static void nobodyStaysYet(Due due) {
        UnderLadders x = Due.market("ML490P3452P3452");
        x.stays(0, 1, 5, true);
        due.is("THE DAY", x.count(3), 0);
        due.is("luck", x.count(4), 10);
        due.is("gold", x.count(6), 0);
        due.is("at home", x.count(7), 3);
        due.is("acts", x.count(8), 0);
    }

    // ---- promise 26: seed

    @Edge(promise = 26, says = "THE SEED is v: what it was.")
    static void anyLongIsASeed(Due due) {
        UnderLadders x = new UnderLadders();
        long[] seeds = {Long.MAX_VALUE, Long.MIN_VALUE, -1, 1, 1L << 32, 0};
        long was = 0;
        for (long v : seeds) {
            due.is("seed " + v, x.seed(v), was);
            was = v;
        }
    }

    // ---- promise 27: years

    private static int yearsBy(String market, int... drawn) {
        UnderLadders x = Due.market(market);
        x.seed(Draws.seedThatDraws(drawn));
        return x.years(drawn.length);
    }

    @Edge(promise = 27, says = "YEARS by THE SEED: m times (1 to 30)")
    static void oneToThirtyTimes(Due due) {
        UnderLadders x = Due.market("ML413P3492");
        x.day();
        due.is("1 gold, once", x.years(1), 1);
        due.is("1 gold, thirty times", x.years(30), 30);
        int[] beyond = {0, 31, -1, Integer.MIN_VALUE, Integer.MAX_VALUE};
        long seed = x.seed(7);
        due.yes("the seed has become another", seed != 0);
        for (int m : beyond) {
            due.is(m + " times", x.years(m), OUTSIDE);
        }
        due.is("the seed stays", x.seed(0), 7);
    }

    @Edge(promise = 27, says = "becomes x times 6364136223846793005 and 1442695040888963407 (64 bits, wrapping)")
    static void theSeedBecomesAnotherOnceEachTime(Due due) {
        long[] seeds = {0, 1, -1, Long.MIN_VALUE, Long.MAX_VALUE};
        int[] times = {1, 2, 29, 30};
        for (long seed : seeds) {
            for (int m : times) {
                UnderLadders x = new UnderLadders();
                x.seed(seed);
                x.years(m);
                long want = seed;
                for (int i = 0; i < m; i++) {
                    want = Draws.next(want);
                }
                due.is("seed " + seed + " behind " + m, x.seed(0), want);
            }
        }
    }

    @Edge(promise = 27, says = "0 to 9: LADDER 0 is MOVED to that PLACE, if it can be")
    static void zeroToNineMoveLadderZero(Due due) {
        for (int place = 0; place <= 9; place++) {
            int want = place >= 1 && place <= 8 ? 1 : 0;
            due.is("moved to " + place + " from 9", yearsBy("ML913P0892", place, 15), want);
            due.is("moved to " + place + " alone", yearsBy("ML913P0892", place), 0);
        }
        due.is("moved back to 9", yearsBy("ML913P0892", 5, 9, 15), 0);
        due.is("moved to 0, where a way ends", yearsBy("ML913P1092", 0, 15), 1);
        due.is("moved to 9, where a way ends", yearsBy("ML013P8992", 9, 15), 1);
    }

    @Edge(promise = 27, says = "0 to 9: LADDER 0 is MOVED to that PLACE, if it can be")
    static void ladderZeroIsNotMovedWhereItCanNotBe(Due due) {
        due.is("another one is there", yearsBy("ML913L511P0892", 5, 15), 0);
        due.is("it is there itself", yearsBy("ML513P0892", 5, 15), 1);
        due.is("it is no other one that is moved", yearsBy("ML911L813P0792", 5, 15), 0);
        due.is("no ladder", yearsBy("MP0892", 5, 15), 0);
        due.is("nothing at all", yearsBy("M", 0, 9), 0);
    }

    @Edge(promise = 27, says = "10 to 14: that less 10 PERSON has 1 more LUCK, if there is such a one")
    static void tenToFourteenGiveOneMoreLuck(Due due) {
        for (int poor = 0; poor < 5; poor++) {
            String market = "ML413" + "P8902".repeat(poor) + "P3442" + "P8902".repeat(4 - poor);
            for (int drawn = 10; drawn <= 14; drawn++) {
                int want = drawn - 10 == poor ? 1 : 0;
                due.is("person " + poor + " by " + drawn, yearsBy(market, drawn, 15), want);
            }
        }
    }

    @Edge(promise = 27, says = "10 to 14: that less 10 PERSON has 1 more LUCK, if there is such a one")
    static void oneMoreLuckIsNotTwo(Due due) {
        due.is("3 and 1", yearsBy("ML413P3432", 10, 15), 0);
        due.is("3 and twice 1", yearsBy("ML413P3432", 10, 10, 15), 1);
    }

    @Edge(promise = 27, says = "10 to 14: that less 10 PERSON has 1 more LUCK, if there is such a one")
    static void nothingIsGivenToNobody(Due due) {
        due.is("one person, 11", yearsBy("ML413P3442", 11, 15), 0);
        due.is("four people, 14", yearsBy("ML413P8902P8902P8902P3442", 14, 15), 0);
        due.is("nobody, 10", yearsBy("ML413", 10, 15), 0);
    }

    @Edge(promise = 27, says = "GIVEN: a PERSON has n more LUCK (99 at most).")
    static void yearsGiveUpToNinetyNine(Due due) {
        UnderLadders x = Due.market("ML413P3402");
        Due.giveInAll(x, 0, 99);
        x.seed(Draws.seedThatDraws(10, 15));
        due.is("99 and 1", x.years(2), 19);
    }

    @Edge(promise = 27, says = "15 and more A DAY: GOLD of all men, each time, together.")
    static void fifteenToTwentyNineAreADay(Due due) {
        for (int drawn = 15; drawn <= 29; drawn++) {
            due.is("drawn " + drawn, yearsBy("ML413P3452", drawn), 1);
        }
        due.is("14 is none", yearsBy("ML413P3452", 14), 0);
    }

    @Edge(promise = 27, says = "its upper 31 bits by 30, what is left")
    static void theUpperBitsAreNeverBelowNothing(Due due) {
        // The greatest 31 bits, 2147483647, leave 7; 2147483639 leave 29; 1073741824 leave 4, 1073741835 leave 15.
        long[] upper = {2147483647L, 2147483639L, 1073741824L, 1073741835L, 0L, 15L};
        int[] want = {0, 1, 0, 1, 0, 1};
        for (int i = 0; i < upper.length; i++) {
            for (long lower = 0; lower < 1L << 33; lower += (1L << 33) - 1) {
                UnderLadders x = Due.market("ML413P3452");
                x.seed(Draws.seedAheadOf((upper[i] << 33) + lower));
                due.is(upper[i] + " and " + lower, x.years(1), want[i]);
            }
        }
    }

    @Edge(promise = 27, says = "15 and more A DAY: GOLD of all men, each time, together.")
    static void goldOfAllMenIsAddedUpEachTime(Due due) {
        // Two men with 1 gold each behind the first day, whatever comes then.
        due.is("one day", yearsBy("ML453L653P3452P5652", 15), 2);
        due.is("a day, then two times", yearsBy("ML453L653P3452P5652", 15, 14, 14), 6);
        due.is("two times, then a day", yearsBy("ML453L653P3452P5652", 14, 14, 15), 2);
    }

    @Edge(promise = 27, says = "(Nothing changes but THE SEED.)")
    static void yearsDoNotPass(Due due) {
        UnderLadders x = Due.market("ML413P3452");
        x.day();
        x.seed(Draws.seedThatDraws(0, 10, 15));
        x.years(3);
        due.is("place", x.ladder(0, 0), 4);
        due.is("at 0", x.at(0), NONE);
        due.is("luck", x.person(0, 4), 0);
        due.is("where", x.person(0, 3), 4);
        due.is("gold", x.count(6), 1);
        due.is("THE DAY", x.count(3), 1);
        due.is("acts", x.count(8), 1);
    }
}
