/** Promises 28 to 30: what is kept and gone on from, and counts. */
final class SlotsEdges {
    private static final int UNKNOWN = Due.UNKNOWN, OUTSIDE = Due.OUTSIDE, STATE = Due.STATE, NONE = Due.NONE;
    private static final int[] NO_SLOT = {-1, 2, Integer.MIN_VALUE, Integer.MAX_VALUE};

    private SlotsEdges() {
    }

    // ---- promise 28: keep

    @Edge(promise = 28, says = "SLOTS 0 to 1 keep where all are, LUCK, GOLD, THE DAY")
    static void thereAreTwoSlotsToKeepIn(Due due) {
        UnderLadders x = Due.market("ML590P4672");
        due.is("slot 0, day 0", x.keep(0), 0);
        x.day();
        due.is("slot 1, day 1", x.keep(1), 1);
        for (int slot : NO_SLOT) {
            due.is("slot " + slot, x.keep(slot), UNKNOWN);
        }
        due.is("slot 0 again", x.again(0), 0);
        due.is("slot 1 again", x.again(1), 1);
    }

    @Edge(promise = 28, says = "They are kept: THE DAY. UNKNOWN.")
    static void keepingChangesNothing(Due due) {
        UnderLadders x = Due.market("ML590P4672");
        x.day();
        x.keep(0);
        due.is("acts", x.count(8), 1);
        due.is("THE DAY", x.count(3), 1);
        due.is("undo", x.undo(), 0);
        due.is("luck", x.person(0, 4), 7);
        due.is("what is kept is not undone", x.again(0), 1);
    }

    @Edge(promise = 28, says = "They are kept: THE DAY. UNKNOWN.")
    static void whatIsKeptLaterIsInTheSlot(Due due) {
        UnderLadders x = Due.market("ML590P4672");
        x.keep(0);
        Due.days(x, 3);
        due.is("kept over", x.keep(0), 3);
        due.is("again", x.again(0), 3);
    }

    @Edge(promise = {28, 29}, says = "SLOTS 0 to 1 keep where all are, LUCK, GOLD, THE DAY")
    static void nothingAndNobodyIsKeptToo(Due due) {
        UnderLadders x = new UnderLadders();
        due.is("keep", x.keep(1), 0);
        x.day();
        due.is("again", x.again(1), 0);
        due.is("THE DAY", x.count(3), 0);
    }

    // ---- promise 29: again

    @Edge(promise = 29, says = "UNKNOWN; STATE: none were kept.")
    static void nothingIsGoneOnFromWhereNoneWereKept(Due due) {
        UnderLadders x = Due.market("ML590P4672");
        x.day();
        due.is("slot 0", x.again(0), STATE);
        due.is("slot 1", x.again(1), STATE);
        x.keep(0);
        due.is("slot 1, when 0 is kept", x.again(1), STATE);
        due.is("acts", x.count(8), 1);
        UnderLadders y = Due.market("M");
        y.keep(1);
        due.is("slot 0, when 1 is kept", y.again(0), STATE);
    }

    @Edge(promise = 29, says = "UNKNOWN; STATE: none were kept.")
    static void thereAreTwoSlotsToGoOnFrom(Due due) {
        UnderLadders x = Due.market("ML590P4672");
        for (int slot : NO_SLOT) {
            due.is("none kept, slot " + slot, x.again(slot), UNKNOWN);
        }
        x.keep(0);
        x.keep(1);
        x.day();
        for (int slot : NO_SLOT) {
            due.is("both kept, slot " + slot, x.again(slot), UNKNOWN);
        }
        due.is("THE DAY", x.count(3), 1);
        due.is("acts", x.count(8), 1);
    }

    @Edge(promise = 29, says = "(THE ROW of ACTS is empty when one goes on)")
    static void theRowIsEmptyWhenOneGoesOn(Due due) {
        UnderLadders x = Due.market("ML590P4672");
        Due.days(x, 20);
        x.keep(0);
        due.is("row ahead", x.count(8), 14);
        due.is("again", x.again(0), 20);
        due.is("row", x.count(8), 0);
        due.is("undo", x.undo(), STATE);
        x.give(0, 1);
        due.is("a new row", x.count(8), 1);
        due.is("undo", x.undo(), 0);
        due.is("no more", x.undo(), STATE);
        due.is("THE DAY", x.count(3), 20);
    }

    @Edge(promise = 29, says = "SLOTS 0 to 1 keep where all are, LUCK, GOLD, THE DAY")
    static void allThatIsKeptIsAsItWas(Due due) {
        UnderLadders x = Due.market("ML590L010P4672P8952");
        x.day();
        x.move(1, 2);
        x.keep(1);
        x.day();
        x.give(0, 9);
        x.give(1, 9);
        x.move(0, 9);
        x.move(1, 5);
        x.down(0);
        due.is("again", x.again(1), 1);
        due.is("place of 0", x.ladder(0, 0), 5);
        due.is("place of 1", x.ladder(1, 0), 2);
        due.is("at 5", x.at(5), 0);
        due.is("at 2", x.at(2), 1);
        due.is("at 9", x.at(9), NONE);
        due.is("his luck and gold", x.ladder(0, 4) * 10 + x.ladder(0, 3), 12);
        due.is("where 0 is", x.person(0, 3), 6);
        due.is("where 1 is", x.person(1, 3), 9);
        due.is("luck of 0", x.person(0, 4), 0);
        due.is("luck of 1", x.person(1, 4), 5);
        due.is("THE DAY", x.count(3), 1);
        due.is("who is at home", x.count(7), 0);
    }

    @Edge(promise = 29, says = "They are as they were kept: THE DAY.")
    static void aSlotIsGoneOnFromManyTimes(Due due) {
        UnderLadders x = Due.market("ML590P4672");
        x.keep(0);
        for (int time = 0; time < 3; time++) {
            x.day();
            x.move(0, 9);
            due.is("again", x.again(0), 0);
            due.is("luck", x.person(0, 4), 7);
            due.is("place", x.at(5), 0);
            due.is("place left", x.at(9), NONE);
        }
    }

    @Edge(promise = 29, says = "SLOTS 0 to 1 keep where all are, LUCK, GOLD, THE DAY")
    static void theTextAndSeenAndTheSeedAreNotKept(Due due) {
        UnderLadders x = Due.market("ML590P4672");
        x.see(5, 0);
        x.seed(3);
        x.keep(0);
        x.wipe();
        x.see(5, 1);
        x.seed(4);
        x.again(0);
        due.is("letters", x.count(0), 0);
        due.is("seen", x.count(9), 2);
        due.is("seed", x.seed(0), 4);
    }

    // ---- promise 30: count

    @Edge(promise = 30, says = "8 ACTS in the row, 9 SEEN. OUTSIDE.")
    static void whatOfCountIsZeroToNine(Due due) {
        UnderLadders x = Due.market("ML590P4672");
        due.is("0", x.count(0), 10);
        due.is("9", x.count(9), 0);
        int[] beyond = {-1, 10, Integer.MIN_VALUE, Integer.MAX_VALUE};
        for (int what : beyond) {
            due.is("what " + what, x.count(what), OUTSIDE);
        }
    }

    @Edge(promise = 30, says = "0 letters of THE TEXT, 1 LADDERS, 2 PEOPLE, 3 THE DAY, 4 LUCK of all PEOPLE")
    static void countsOfAllThatThereMayBe(Due due) {
        UnderLadders x = Due.market("ML413L810L710L610P3402P3402P3402P3402P3402");
        Due.append(x, "MMMMMMMMM");
        for (int i = 0; i < 7; i++) {
            x.see(1, 1);
        }
        for (int person = 0; person < 5; person++) {
            Due.giveInAll(x, person, 99);
            x.give(person, 9);
        }
        int[] ahead = {48, 4, 5, 0, 495, 0, 0, 31, 14, 6};
        for (int what = 0; what <= 9; what++) {
            due.is("count " + what, x.count(what), ahead[what]);
        }
        x.day();
        int[] behind = {48, 4, 5, 1, 0, 0, 99, 0, 14, 6};
        for (int what = 0; what <= 9; what++) {
            due.is("count " + what + " behind a day", x.count(what), behind[what]);
        }
    }

    @Edge(promise = 30, says = "5 LUCK of all men, 6 GOLD of all men, 7 who is at HOME (bits)")
    static void countsOfAllMenAndOfThoseAtHome(Due due) {
        UnderLadders x = Due.market("ML490L690P3482P5672P0192P1092P2392");
        x.day();
        due.is("luck of men", x.count(5), 3 + 2);
        due.is("gold of men", x.count(6), 1 + 1);
        due.is("luck of people", x.count(4), 27);
        due.is("nobody is at home", x.count(7), 0);
        x.day();
        due.is("all are at home", x.count(7), 31);
    }
}
