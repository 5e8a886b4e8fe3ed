/** Promises 20 to 22: what was seen under one ladder, and what that ladder may be. */
final class SeenEdges {
    private static final int OUTSIDE = Due.OUTSIDE, FULL = Due.FULL, NONE = Due.NONE;

    private SeenEdges() {
    }

    // ---- promise 20: see

    @Edge(promise = 20, says = "that one with a (0 to 20) LUCK went under a LADDER")
    static void oneWithNothingToTwentyIsSeen(Due due) {
        UnderLadders x = new UnderLadders();
        due.is("0", x.see(0, 0), 1);
        due.is("20", x.see(20, 0), 2);
        int[] beyond = {-1, 21, Integer.MIN_VALUE, Integer.MAX_VALUE};
        for (int a : beyond) {
            due.is("a " + a, x.see(a, 0), OUTSIDE);
            due.is("a and b " + a, x.see(a, a), OUTSIDE);
        }
        due.is("seen", x.count(9), 2);
    }

    @Edge(promise = 20, says = "and had b (0 to a) behind it")
    static void noMoreIsLeftThanThereWas(Due due) {
        UnderLadders x = new UnderLadders();
        due.is("0 of 5", x.see(5, 0), 1);
        due.is("5 of 5", x.see(5, 5), 2);
        due.is("20 of 20", x.see(20, 20), 3);
        due.is("0 of 0", x.see(0, 0), 4);
        int[] beyond = {-1, 6, 20, Integer.MIN_VALUE, Integer.MAX_VALUE};
        for (int b : beyond) {
            due.is(b + " of 5", x.see(5, b), OUTSIDE);
        }
        due.is("1 of 0", x.see(0, 1), OUTSIDE);
        due.is("21 of 20", x.see(20, 21), OUTSIDE);
        due.is("seen", x.count(9), 4);
    }

    @Edge(promise = 20, says = "6 such at most, none at first (all of one LADDER)")
    static void sixAreSeenAndNoMore(Due due) {
        UnderLadders x = new UnderLadders();
        due.is("none at first", x.count(9), 0);
        for (int i = 1; i <= 6; i++) {
            due.is("see", x.see(3, 2), i);
        }
        due.is("a seventh", x.see(3, 1), FULL);
        due.is("seen", x.count(9), 6);
        due.is("the seventh is not among them", x.may(1), 1);
    }

    @Edge(promise = 20, says = "SEEN: how many there are. OUTSIDE: a, b; FULL: 6.")
    static void outsideComesAheadOfFull(Due due) {
        UnderLadders x = new UnderLadders();
        for (int i = 0; i < 6; i++) {
            x.see(3, 2);
        }
        due.is("a", x.see(21, 0), OUTSIDE);
        due.is("b", x.see(3, 4), OUTSIDE);
        due.is("neither", x.see(20, 20), FULL);
    }

    // ---- promise 21: unsee

    @Edge(promise = 21, says = "Nothing is SEEN: how much there was.")
    static void nothingIsSeenBehindIt(Due due) {
        UnderLadders x = new UnderLadders();
        due.is("nothing", x.unsee(), 0);
        for (int i = 0; i < 6; i++) {
            x.see(20, 20);
        }
        due.is("six", x.unsee(), 6);
        due.is("nothing again", x.unsee(), 0);
        due.is("seen", x.count(9), 0);
        due.is("all may be", x.may(0), 27);
        for (int i = 1; i <= 6; i++) {
            due.is("six anew", x.see(0, 0), i);
        }
        due.is("none of the old ones", x.may(0), 27);
    }

    // ---- promise 22: may

    private static void may(Due due, int[][] seen, int howMany, int first) {
        UnderLadders x = new UnderLadders();
        StringBuilder told = new StringBuilder();
        for (int[] one : seen) {
            x.see(one[0], one[1]);
            told.append(one[0]).append(" to ").append(one[1]).append(", ");
        }
        due.is(told + "how many", x.may(0), howMany);
        due.is(told + "the first", x.may(1), first);
    }

    @Edge(promise = 22, says = "those by which all that is SEEN is so: how many (27 there are)")
    static void allTwentySevenMayBeWhereNothingIsSeen(Due due) {
        may(due, new int[][] {}, 27, 1);
        may(due, new int[][] {{0, 0}}, 27, 1);
        may(due, new int[][] {{0, 0}, {0, 0}, {0, 0}, {0, 0}, {0, 0}, {0, 0}}, 27, 1);
    }

    @Edge(promise = 22, says = "how many (what = 0), the first (1); NONE.")
    static void noneMayBe(Due due) {
        may(due, new int[][] {{2, 2}}, 0, NONE);
        may(due, new int[][] {{20, 20}}, 0, NONE);
        may(due, new int[][] {{20, 10}}, 0, NONE);
        may(due, new int[][] {{3, 1}, {3, 2}}, 0, NONE);
        may(due, new int[][] {{0, 0}, {0, 0}, {0, 0}, {0, 0}, {0, 0}, {20, 20}}, 0, NONE);
        may(due, new int[][] {{20, 20}, {0, 0}, {0, 0}, {0, 0}, {0, 0}, {0, 0}}, 0, NONE);
    }

    @Edge(promise = 22, says = "of KINDS 0, 1, 3 and t (1 to 9)")
    static void oneAloneMayBeOfTheLeastAndTheGreatestT(Due due) {
        // 20 less 1: plain and steep of 1; 3 less 1 is so by steep ones of all t.
        may(due, new int[][] {{20, 19}}, 2, 1);
        may(due, new int[][] {{20, 11}}, 2, 9);
        may(due, new int[][] {{20, 11}, {17, 8}}, 1, 9);
        may(due, new int[][] {{20, 11}, {17, 9}}, 1, 19);
        may(due, new int[][] {{20, 19}, {1, 1}}, 1, 11);
        may(due, new int[][] {{20, 19}, {1, 0}}, 1, 1);
    }

    @Edge(promise = 22, says = "t, or all it has, if that is less")
    static void allIsTakenByPlainOnesOfEnoughAndByHungryOnes(Due due) {
        may(due, new int[][] {{1, 0}}, 18, 1);
        may(due, new int[][] {{9, 0}}, 10, 9);
        may(due, new int[][] {{10, 0}}, 9, 31);
        may(due, new int[][] {{20, 0}}, 9, 31);
    }

    @Edge(promise = 22, says = "STEEP: half of what it has (cut), but t at most")
    static void halfIsTakenBySteepOnesOfEnough(Due due) {
        may(due, new int[][] {{1, 1}}, 9, 11);
        may(due, new int[][] {{3, 2}}, 10, 1);
        may(due, new int[][] {{19, 10}}, 2, 9);
        may(due, new int[][] {{18, 9}, {19, 10}, {16, 8}}, 1, 19);
    }

    @Edge(promise = 22, says = "the first (10 times KIND and t); NONE.")
    static void theFirstIsTheLeastKindThenTheLeastT(Due due) {
        may(due, new int[][] {{5, 0}}, 14, 5);
        may(due, new int[][] {{5, 3}}, 9, 2);
        may(due, new int[][] {{5, 3}, {1, 1}}, 8, 12);
        may(due, new int[][] {{15, 0}}, 9, 31);
    }

    @Edge(promise = 22, says = "MAY: how many (what = 0), the first (1); NONE. OUTSIDE.")
    static void whatOfMayIsZeroOrOne(Due due) {
        UnderLadders x = new UnderLadders();
        int[] beyond = {-1, 2, Integer.MIN_VALUE, Integer.MAX_VALUE};
        for (int what : beyond) {
            due.is("what " + what, x.may(what), OUTSIDE);
        }
    }
}
