/** Promises 1 to 8: a new object, the text and its fault, the market and who is in it. */
final class MarketEdges {
    private static final int UNKNOWN = Due.UNKNOWN, OUTSIDE = Due.OUTSIDE, STATE = Due.STATE, FULL = Due.FULL,
            NONE = Due.NONE;
    /** Four ladders and five people: the longest market there is. */
    private static final String ALL = "ML010L121L232L343P0590P1681P2772P3863P4950";

    private MarketEdges() {
    }

    // ---- promise 1: a new object

    @Edge(promise = {1, 30}, says = "At first there is nothing.")
    static void nothingIsThereAtFirst(Due due) {
        UnderLadders x = new UnderLadders();
        for (int what = 0; what <= 9; what++) {
            due.is("count " + what, x.count(what), 0);
        }
        due.is("wipe", x.wipe(), 0);
        due.is("unsee", x.unsee(), 0);
    }

    @Edge(promise = 1, says = "Nothing, nobody.")
    static void nobodyIsThereAtFirst(Due due) {
        UnderLadders x = new UnderLadders();
        due.is("ladder", x.ladder(0, 0), UNKNOWN);
        due.is("person", x.person(0, 0), UNKNOWN);
        for (int place = 0; place <= 9; place++) {
            due.is("at " + place, x.at(place), NONE);
        }
    }

    @Edge(promise = {1, 26}, says = "(THE SEED, a long; 0 at first)")
    static void theSeedIsZeroAtFirst(Due due) {
        due.is("seed", new UnderLadders().seed(1), 0);
    }

    @Edge(promise = {1, 4, 5}, says = "At first there is nothing.")
    static void theTextAtFirstIsNoMarket(Due due) {
        UnderLadders x = new UnderLadders();
        due.is("fault", x.fault(), 0);
        due.is("market", x.market(), STATE);
    }

    @Edge(promise = {1, 9, 13, 27, 28, 29}, says = "Nothing, nobody.")
    static void daysPassWhereNobodyIs(Due due) {
        UnderLadders x = new UnderLadders();
        due.is("day", x.day(), 0);
        due.is("THE DAY", x.count(3), 1);
        due.is("keep", x.keep(0), 1);
        due.is("years", x.years(30), 0);
        due.is("undo", x.undo(), 0);
        due.is("THE DAY undone", x.count(3), 0);
        due.is("again", x.again(0), 1);
    }

    @Edge(promise = 1, says = "Nothing, nobody.")
    static void oneObjectKnowsNothingOfAnother(Due due) {
        UnderLadders x = Due.market(ALL);
        x.day();
        x.see(3, 1);
        x.seed(9);
        x.keep(0);
        UnderLadders y = new UnderLadders();
        for (int what = 0; what <= 9; what++) {
            due.is("count " + what, y.count(what), 0);
        }
        due.is("seed", y.seed(0), 0);
        due.is("again", y.again(0), STATE);
        due.is("the other one's day", x.count(3), 1);
    }

    // ---- promise 2: write

    @Edge(promise = 2, says = "A letter (0 to 255) comes behind THE TEXT: how long it is.")
    static void theLeastLetterIsTaken(Due due) {
        UnderLadders x = new UnderLadders();
        due.is("write 0", x.write(0), 1);
        due.is("letters", x.count(0), 1);
    }

    @Edge(promise = 2, says = "A letter (0 to 255) comes behind THE TEXT: how long it is.")
    static void theGreatestLetterIsTaken(Due due) {
        UnderLadders x = new UnderLadders();
        due.is("write 255", x.write(255), 1);
        due.is("letters", x.count(0), 1);
    }

    @Edge(promise = 2, says = "A letter (0 to 255) comes behind THE TEXT: how long it is. OUTSIDE")
    static void lettersBeyondAreOutside(Due due) {
        UnderLadders x = new UnderLadders();
        int[] beyond = {-1, 256, 256 + 'M', 'M' - 256, Integer.MIN_VALUE, Integer.MAX_VALUE};
        for (int letter : beyond) {
            due.is("write " + letter, x.write(letter), OUTSIDE);
            due.is("letters behind " + letter, x.count(0), 0);
        }
    }

    @Edge(promise = 2, says = "FULL: there are 48.")
    static void fortyEightLettersAreTakenAndNoMore(Due due) {
        UnderLadders x = new UnderLadders();
        for (int i = 1; i <= 48; i++) {
            due.is("letter " + i, x.write('M'), i);
        }
        due.is("letter 49", x.write('M'), FULL);
        due.is("letters", x.count(0), 48);
    }

    @Edge(promise = 2, says = "OUTSIDE; FULL: there are 48.")
    static void outsideComesAheadOfFull(Due due) {
        UnderLadders x = new UnderLadders();
        Due.append(x, "M".repeat(48));
        due.is("-1", x.write(-1), OUTSIDE);
        due.is("256", x.write(256), OUTSIDE);
        due.is("255", x.write(255), FULL);
        due.is("0", x.write(0), FULL);
    }

    @Edge(promise = {2, 3}, says = "THE TEXT is empty: how long it was.")
    static void aWipedTextTakesFortyEightAnew(Due due) {
        UnderLadders x = new UnderLadders();
        Due.append(x, "X".repeat(48));
        due.is("wipe", x.wipe(), 48);
        for (int i = 1; i <= 48; i++) {
            due.is("letter " + i, x.write('X'), i);
        }
        due.is("letter 49", x.write('X'), FULL);
    }

    @Edge(promise = {2, 4}, says = "A letter (0 to 255) comes behind THE TEXT: how long it is.")
    static void aLetterComesBehindTheOthers(Due due) {
        UnderLadders x = new UnderLadders();
        x.write('L');
        x.write('M');
        due.is("LM", x.fault(), 0);
        x.wipe();
        x.write('M');
        x.write('L');
        due.is("ML", x.fault(), 2);
    }

    // ---- promise 3: wipe

    @Edge(promise = 3, says = "THE TEXT is empty: how long it was.")
    static void anEmptyTextIsWiped(Due due) {
        UnderLadders x = new UnderLadders();
        due.is("wipe", x.wipe(), 0);
        x.write('M');
        due.is("wipe one", x.wipe(), 1);
        due.is("wipe again", x.wipe(), 0);
        due.is("letters", x.count(0), 0);
        due.is("fault", x.fault(), 0);
    }

    @Edge(promise = 3, says = "THE TEXT is empty: how long it was.")
    static void theMarketStaysWhenTheTextIsWiped(Due due) {
        UnderLadders x = Due.market(ALL);
        x.day();
        due.is("wipe", x.wipe(), 42);
        due.is("ladders", x.count(1), 4);
        due.is("people", x.count(2), 5);
        due.is("THE DAY", x.count(3), 1);
        due.is("acts", x.count(8), 1);
    }

    // ---- promise 4: fault

    /** Each of the 256 letters behind a beginning: those of the row are right, all others are the fault. */
    private static void onlyThese(Due due, String begun, String right, int faultIfRight) {
        for (int letter = 0; letter <= 255; letter++) {
            int want = right.indexOf(letter) >= 0 ? faultIfRight : begun.length();
            due.is("fault of " + begun + " and letter " + letter, Due.faultOf(begun + (char) letter), want);
        }
    }

    @Edge(promise = 4, says = "A MARKET is a TEXT: M, then PARTS, none or more")
    static void firstComesM(Due due) {
        onlyThese(due, "", "M", NONE);
    }

    @Edge(promise = 4, says = "A MARKET is a TEXT: M, then PARTS, none or more")
    static void aPartBeginsWithLOrP(Due due) {
        onlyThese(due, "M", "LP", 2);
        onlyThese(due, "ML510", "LP", 6);
        onlyThese(due, "MP4590", "LP", 7);
    }

    @Edge(promise = 4, says = "Lptk     a LADDER at PLACE p (where none is told yet)")
    static void aLadderStandsAtAnyPlace(Due due) {
        onlyThese(due, "ML", "0123456789", 3);
    }

    @Edge(promise = 4, says = "Lptk     a LADDER at PLACE p (where none is told yet)")
    static void aLadderStandsWhereNoneIsToldYet(Due due) {
        onlyThese(due, "ML010L", "123456789", 7);
        onlyThese(due, "ML910L", "012345678", 7);
        onlyThese(due, "ML010L910L410L", "1235678", 15);
        onlyThese(due, "ML010P4590L", "123456789", 12);
    }

    @Edge(promise = 4, says = "a PERSON whose HOME is at PLACE h, WORK at PLACE w (another one)")
    static void peopleMayLiveWhereLaddersAreAndOthersLive(Due due) {
        onlyThese(due, "ML010P", "0123456789", 7);
        onlyThese(due, "MP0190P", "0123456789", 8);
        onlyThese(due, "ML010P1", "023456789", 8);
    }

    @Edge(promise = 4, says = "that takes t (1 to 9)")
    static void aLadderTakesOneToNine(Due due) {
        onlyThese(due, "ML5", "123456789", 4);
    }

    @Edge(promise = 4, says = "of KIND k: 0 PLAIN, 1 STEEP, 2 BENT, 3 HUNGRY")
    static void aLadderIsOfFourKinds(Due due) {
        onlyThese(due, "ML51", "0123", NONE);
    }

    @Edge(promise = 4, says = "a PERSON whose HOME is at PLACE h")
    static void aPersonLivesAtAnyPlace(Due due) {
        onlyThese(due, "MP", "0123456789", 3);
    }

    @Edge(promise = 4, says = "WORK at PLACE w (another one)")
    static void aPersonWorksAtAnotherPlace(Due due) {
        onlyThese(due, "MP0", "123456789", 4);
        onlyThese(due, "MP9", "012345678", 4);
        onlyThese(due, "MP4", "012356789", 4);
    }

    @Edge(promise = 4, says = "of LUCK l (0 to 9)")
    static void aPersonHasLuckOfAnyFigure(Due due) {
        onlyThese(due, "MP45", "0123456789", 5);
    }

    @Edge(promise = 4, says = "of KIND k: 0 PLAIN, 1 CAREFUL, 2 BLIND, 3 CHILD")
    static void aPersonIsOfFourKinds(Due due) {
        onlyThese(due, "MP459", "0123", NONE);
    }

    @Edge(promise = 4, says = "LADDERS (4 at most)")
    static void fourLaddersAreToldAndNoFifth(Due due) {
        due.is("four", Due.faultOf("ML010L110L210L310"), NONE);
        onlyThese(due, "ML010L110L210L310", "P", 18);
        onlyThese(due, "ML010P0190L110L210L310", "P", 23);
    }

    @Edge(promise = 4, says = "PEOPLE (5 at most)")
    static void fivePeopleAreToldAndNoSixth(Due due) {
        due.is("five", Due.faultOf("MP0190P0190P0190P0190P0190"), NONE);
        onlyThese(due, "MP0190P0190P0190P0190P0190", "L", 27);
        onlyThese(due, "MP0190P0190L010P0190P0190P0190", "L", 31);
    }

    @Edge(promise = 4, says = "LADDERS (4 at most), PEOPLE (5 at most)")
    static void nothingComesBehindAllOfThem(Due due) {
        due.is("all", Due.faultOf(ALL), NONE);
        onlyThese(due, ALL, "", NONE);
    }

    @Edge(promise = 4, says = "its length, if it is only not at its end; NONE: none.")
    static void anyBeginningOfAMarketIsOnlyNotAtItsEnd(Due due) {
        UnderLadders x = new UnderLadders();
        due.is("empty", x.fault(), 0);
        for (int i = 0; i < ALL.length(); i++) {
            x.write(ALL.charAt(i));
            int length = i + 1;
            boolean atEnd = length <= 17 ? length % 4 == 1 : (length - 17) % 5 == 0;
            due.is(ALL.substring(0, length), x.fault(), atEnd ? NONE : length);
        }
    }

    @Edge(promise = 4, says = "the place of the first letter by which THE TEXT can be no MARKET")
    static void theFirstOfSeveralFaultsIsTold(Due due) {
        due.is("place ahead of t", Due.faultOf("MLx04"), 2);
        due.is("t ahead of kind", Due.faultOf("ML004"), 3);
        due.is("work ahead of kind", Due.faultOf("MP4494"), 3);
        due.is("first part ahead of second", Due.faultOf("ML514Lx"), 4);
        due.is("M ahead of all", Due.faultOf("XL004"), 0);
    }

    @Edge(promise = 4, says = "whatever came behind it (its length set aside)")
    static void whatComesBehindAFaultMendsNothing(Due due) {
        UnderLadders x = new UnderLadders();
        Due.append(x, "ML50");
        for (int length = 5; length <= 48; length++) {
            due.is("letter " + length, x.write(ALL.charAt(length % ALL.length())), length);
            due.is("fault with " + length, x.fault(), 3);
        }
    }

    @Edge(promise = 4, says = "THE TEXT is letters (48 at most).")
    static void aFullTextHasItsFaultBehindTheLongestMarket(Due due) {
        UnderLadders x = new UnderLadders();
        Due.append(x, ALL + "P01900");
        due.is("letters", x.count(0), 48);
        due.is("fault", x.fault(), 42);
        due.is("market", x.market(), STATE);
    }

    @Edge(promise = 4, says = "FAULT; NONE.")
    static void askingForTheFaultChangesNothing(Due due) {
        UnderLadders x = Due.market("ML590P4672");
        x.day();
        Due.write(x, "ML010L110P0190P");
        due.is("fault", x.fault(), 15);
        due.is("ladders", x.count(1), 1);
        due.is("people", x.count(2), 1);
        due.is("place", x.ladder(0, 0), 5);
        due.is("gold", x.ladder(0, 4), 1);
        due.is("home", x.person(0, 0), 4);
        due.is("in a day", x.gold(0, 1), 1);
    }

    // ---- promise 5: market

    @Edge(promise = 5, says = "10 times LADDERS, and PEOPLE.")
    static void marketsOfNothingAndOfAll(Due due) {
        String[] texts = {"M", "ML010", "MP0190", "ML010L110L210L310", "MP0190P0190P0190P0190P0190", ALL};
        int[] want = {0, 10, 1, 40, 5, 45};
        for (int i = 0; i < texts.length; i++) {
            UnderLadders x = new UnderLadders();
            Due.write(x, texts[i]);
            due.is(texts[i], x.market(), want[i]);
            due.is("ladders of " + texts[i], x.count(1), want[i] / 10);
            due.is("people of " + texts[i], x.count(2), want[i] % 10);
        }
    }

    @Edge(promise = 5, says = "are numbered as they are told, each for itself")
    static void laddersAndPeopleAreNumberedEachForItself(Due due) {
        UnderLadders y = new UnderLadders();
        Due.write(y, "MP9013L782P1221L311P4230");
        due.is("market", y.market(), 23);
        due.is("ladder 0", y.ladder(0, 0), 7);
        due.is("ladder 1", y.ladder(1, 0), 3);
        due.is("person 0", y.person(0, 0), 9);
        due.is("person 1", y.person(1, 0), 1);
        due.is("person 2", y.person(2, 0), 4);
    }

    @Edge(promise = 5, says = "STATE: a FAULT.")
    static void aTextWithAFaultIsNoMarket(Due due) {
        String[] faulty = {"", "X", "ML", "ML51", "ML510X", "ML510L510", "MP4590P", "m"};
        for (String text : faulty) {
            UnderLadders x = Due.market("ML590P4672");
            x.day();
            Due.write(x, text);
            due.is("market " + text, x.market(), STATE);
            due.is("THE DAY", x.count(3), 1);
            due.is("ladders", x.count(1), 1);
            due.is("people", x.count(2), 1);
            due.is("gold", x.count(6), 1);
            due.is("undo", x.undo(), 0);
        }
    }

    @Edge(promise = 5, says = "all are at HOME, men on LADDERS have no LUCK, no GOLD, THE DAY is 0.")
    static void aMarketMadeAnewBeginsAnew(Due due) {
        UnderLadders x = Due.market("ML590P4672");
        x.day();
        x.move(0, 0);
        due.is("gold and luck ahead", x.ladder(0, 4) * 10 + x.ladder(0, 3), 12);
        due.is("market", x.market(), 11);
        due.is("at home", x.count(7), 1);
        due.is("where", x.person(0, 3), 4);
        due.is("luck", x.person(0, 4), 7);
        due.is("his luck", x.ladder(0, 3), 0);
        due.is("his gold", x.ladder(0, 4), 0);
        due.is("place", x.ladder(0, 0), 5);
        due.is("at the place", x.at(5), 0);
        due.is("at the other place", x.at(0), NONE);
        due.is("THE DAY", x.count(3), 0);
    }

    @Edge(promise = {5, 13}, says = "(THE ROW of ACTS is empty, what was kept is gone; SEEN, THE SEED stay)")
    static void theRowIsEmptyBehindAMarket(Due due) {
        UnderLadders x = Due.market("ML590P4672");
        Due.days(x, 14);
        due.is("row ahead", x.count(8), 14);
        x.market();
        due.is("row", x.count(8), 0);
        due.is("undo", x.undo(), STATE);
    }

    @Edge(promise = {5, 29}, says = "(THE ROW of ACTS is empty, what was kept is gone; SEEN, THE SEED stay)")
    static void whatWasKeptIsGoneBehindAMarket(Due due) {
        UnderLadders x = Due.market("ML590P4672");
        x.keep(0);
        x.keep(1);
        x.market();
        due.is("slot 0", x.again(0), STATE);
        due.is("slot 1", x.again(1), STATE);
    }

    @Edge(promise = 5, says = "(THE ROW of ACTS is empty, what was kept is gone; SEEN, THE SEED stay)")
    static void seenAndTheSeedStayBehindAMarket(Due due) {
        UnderLadders x = Due.market("ML590P4672");
        x.see(20, 13);
        x.seed(Long.MIN_VALUE);
        x.market();
        due.is("seen", x.count(9), 1);
        due.is("may", x.may(1), 7);
        due.is("seed", x.seed(0), Long.MIN_VALUE);
    }

    @Edge(promise = 5, says = "THE TEXT is THE MARKET")
    static void theTextStaysBehindAMarket(Due due) {
        UnderLadders x = Due.market(ALL);
        due.is("letters", x.count(0), 42);
        due.is("fault", x.fault(), NONE);
        due.is("a letter more", x.write('L'), 43);
        due.is("its ladders", x.count(1), 4);
    }

    @Edge(promise = 5, says = "THE TEXT is THE MARKET")
    static void aSmallerMarketLeavesNothingOfAGreaterOne(Due due) {
        UnderLadders x = Due.market(ALL);
        x.day();
        Due.write(x, "ML710P0190");
        due.is("market", x.market(), 11);
        due.is("no ladder 1", x.ladder(1, 0), UNKNOWN);
        due.is("no person 1", x.person(1, 0), UNKNOWN);
        for (int place = 0; place <= 9; place++) {
            due.is("at " + place, x.at(place), place == 7 ? 0 : NONE);
        }
        due.is("luck of people", x.count(4), 9);
        due.is("at home", x.count(7), 1);
        Due.write(x, "M");
        due.is("market of nothing", x.market(), 0);
        due.is("at 7", x.at(7), NONE);
        due.is("luck of people", x.count(4), 0);
        due.is("at home", x.count(7), 0);
    }

    @Edge(promise = {5, 9}, says = "THE TEXT is THE MARKET")
    static void thoseOfAGreaterMarketBringNothingToASmallerOne(Due due) {
        UnderLadders x = Due.market("ML710L890P0102P6982P6982P6982P6982");
        Due.write(x, "ML790P0192");
        x.market();
        due.is("gold of a day", x.day(), 0);
        due.is("luck of men", x.count(5), 0);
        due.is("gold in 20 days", x.gold(0, 20), 0);
        due.is("luck of people", x.count(4), 9);
    }

    // ---- promise 6: ladder

    @Edge(promise = 6, says = "there is no such LADDER")
    static void theLastLadderIsKnownAndNoOther(Due due) {
        String[] texts = {"M", "ML010", "ML010L110", "ML010L110L210", "ML010L110L210L310"};
        for (int ladders = 0; ladders <= 4; ladders++) {
            UnderLadders x = Due.market(texts[ladders]);
            for (int ladder = 0; ladder <= 5; ladder++) {
                due.is("ladder " + ladder + " of " + ladders, x.ladder(ladder, 0), ladder < ladders ? ladder : UNKNOWN);
            }
            due.is("below", x.ladder(-1, 0), UNKNOWN);
            due.is("least int", x.ladder(Integer.MIN_VALUE, 0), UNKNOWN);
            due.is("greatest int", x.ladder(Integer.MAX_VALUE, 0), UNKNOWN);
        }
    }

    @Edge(promise = 6, says = "its PLACE (what = 0), t (1), KIND (2), LUCK of its man (3), GOLD (4).")
    static void whatOfALadderIsZeroToFour(Due due) {
        UnderLadders x = Due.market("ML593P4672");
        x.day();
        int[] want = {5, 9, 3, 2, 1};
        for (int what = 0; what <= 4; what++) {
            due.is("what " + what, x.ladder(0, what), want[what]);
        }
        int[] beyond = {-1, 5, Integer.MIN_VALUE, Integer.MAX_VALUE};
        for (int what : beyond) {
            due.is("what " + what, x.ladder(0, what), OUTSIDE);
        }
    }

    @Edge(promise = 6, says = "GOLD (4). UNKNOWN; OUTSIDE.")
    static void anUnknownLadderComesAheadOfOutside(Due due) {
        UnderLadders x = Due.market("ML010");
        due.is("above", x.ladder(1, 5), UNKNOWN);
        due.is("below", x.ladder(-1, -1), UNKNOWN);
    }

    @Edge(promise = 6, says = "Lptk     a LADDER at PLACE p (where none is told yet), that takes t (1 to 9), of KIND k")
    static void laddersOfTheLeastAndTheGreatestFigures(Due due) {
        UnderLadders x = Due.market("ML010L993");
        int[] least = {0, 1, 0, 0, 0};
        int[] greatest = {9, 9, 3, 0, 0};
        for (int what = 0; what <= 4; what++) {
            due.is("least, what " + what, x.ladder(0, what), least[what]);
            due.is("greatest, what " + what, x.ladder(1, what), greatest[what]);
        }
    }

    // ---- promise 7: person

    @Edge(promise = 7, says = "there is no such LADDER, PERSON")
    static void theLastPersonIsKnownAndNoOther(Due due) {
        for (int people = 0; people <= 5; people++) {
            UnderLadders x = Due.market("M" + "P0190P1290P2390P3490P4590".substring(0, 5 * people));
            for (int person = 0; person <= 6; person++) {
                due.is("person " + person + " of " + people, x.person(person, 0), person < people ? person : UNKNOWN);
            }
            due.is("below", x.person(-1, 0), UNKNOWN);
            due.is("least int", x.person(Integer.MIN_VALUE, 0), UNKNOWN);
            due.is("greatest int", x.person(Integer.MAX_VALUE, 0), UNKNOWN);
        }
    }

    @Edge(promise = 7, says = "where it is (3), LUCK (4), LADDERS that it comes to on its next way (5: bits)")
    static void whatOfAPersonIsZeroToFive(Due due) {
        UnderLadders x = Due.market("ML510P4682");
        x.day();
        int[] want = {4, 6, 2, 6, 7, 1};
        for (int what = 0; what <= 5; what++) {
            due.is("what " + what, x.person(0, what), want[what]);
        }
        int[] beyond = {-1, 6, Integer.MIN_VALUE, Integer.MAX_VALUE};
        for (int what : beyond) {
            due.is("what " + what, x.person(0, what), OUTSIDE);
        }
    }

    @Edge(promise = 7, says = "on its next way (5: bits). UNKNOWN; OUTSIDE.")
    static void anUnknownPersonComesAheadOfOutside(Due due) {
        UnderLadders x = Due.market("MP0190");
        due.is("above", x.person(1, 6), UNKNOWN);
        due.is("below", x.person(-1, -1), UNKNOWN);
    }

    @Edge(promise = 7, says = "Phwlk    a PERSON whose HOME is at PLACE h, WORK at PLACE w (another one), of LUCK l (0 to 9)")
    static void peopleOfTheLeastAndTheGreatestFigures(Due due) {
        UnderLadders x = Due.market("MP0900P9093");
        int[] least = {0, 9, 0, 0, 0, 0};
        int[] greatest = {9, 0, 3, 9, 9, 0};
        for (int what = 0; what <= 5; what++) {
            due.is("least, what " + what, x.person(0, what), least[what]);
            due.is("greatest, what " + what, x.person(1, what), greatest[what]);
        }
    }

    @Edge(promise = 7, says = "it comes to each PLACE on its way but the one where it begins, the last one, too")
    static void theWayHasItsLastPlaceAndNotItsFirst(Due due) {
        UnderLadders x = Due.market("ML310L710P3790");
        due.is("upwards", x.person(0, 5), 0b10);
        x.day();
        due.is("downwards", x.person(0, 5), 0b01);
        UnderLadders beside = Due.market("ML210L810P3790");
        due.is("one ahead, one behind: upwards", beside.person(0, 5), 0);
        beside.day();
        due.is("one ahead, one behind: downwards", beside.person(0, 5), 0);
    }

    @Edge(promise = 7, says = "LADDERS that it comes to on its next way (5: bits)")
    static void aWayMayHaveAllLaddersOrNone(Due due) {
        UnderLadders x = Due.market("ML910L110L410L510P0990P9090P6790P9890P2390");
        int[] there = {0b1111, 0b1110, 0, 0, 0};
        int[] back = {0b1110, 0b1111, 0, 0b0001, 0};
        for (int person = 0; person < 5; person++) {
            due.is("there, person " + person, x.person(person, 5), there[person]);
        }
        x.day();
        for (int person = 0; person < 5; person++) {
            due.is("back, person " + person, x.person(person, 5), back[person]);
        }
    }

    @Edge(promise = 7, says = "LADDERS that it comes to on its next way (5: bits)")
    static void aMovedLadderLeavesAndEntersTheWay(Due due) {
        UnderLadders x = Due.market("ML510P4690");
        due.is("on it", x.person(0, 5), 1);
        x.move(0, 4);
        due.is("where it begins", x.person(0, 5), 0);
        x.move(0, 6);
        due.is("where it ends", x.person(0, 5), 1);
        x.move(0, 7);
        due.is("behind it", x.person(0, 5), 0);
    }

    // ---- promise 8: at

    @Edge(promise = 8, says = "PLACE (0 to 9)")
    static void placesAreZeroToNine(Due due) {
        UnderLadders x = Due.market("ML010L910");
        due.is("0", x.at(0), 0);
        due.is("9", x.at(9), 1);
        for (int place = 1; place <= 8; place++) {
            due.is("at " + place, x.at(place), NONE);
        }
        int[] beyond = {-1, 10, Integer.MIN_VALUE, Integer.MAX_VALUE};
        for (int place : beyond) {
            due.is("at " + place, x.at(place), UNKNOWN);
        }
    }

    @Edge(promise = 8, says = "The LADDER at a PLACE; NONE. UNKNOWN.")
    static void placesAreThereWhereNoLadderIs(Due due) {
        UnderLadders x = Due.market("M");
        due.is("0", x.at(0), NONE);
        due.is("9", x.at(9), NONE);
        due.is("10", x.at(10), UNKNOWN);
        due.is("-1", x.at(-1), UNKNOWN);
    }

    @Edge(promise = 8, says = "The LADDER at a PLACE; NONE. UNKNOWN.")
    static void aMovedLadderIsAtItsNewPlaceAlone(Due due) {
        UnderLadders x = Due.market("ML010L910");
        x.move(0, 8);
        due.is("left", x.at(0), NONE);
        due.is("there", x.at(8), 0);
        x.undo();
        due.is("there again", x.at(0), 0);
        due.is("left again", x.at(8), NONE);
    }
}
