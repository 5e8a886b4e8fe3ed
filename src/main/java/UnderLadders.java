/**
 * A street of ladders and people: luck that is lost under a ladder is got by the man on it.
 * The numbered promises that this class keeps stand in the project's document.
 */
public final class UnderLadders {
    public static final int UNKNOWN = -1, OUTSIDE = -2, STATE = -3, FULL = -4, NONE = -9;

    private static final int PLACES = 10;
    private static final int MOST_LETTERS = 48;
    private static final int MOST_LADDERS = 4;
    private static final int MOST_PEOPLE = 5;
    private static final int MOST_ACTS = 14;
    private static final int MOST_SEEN = 6;
    private static final int MOST_SEEN_LUCK = 20;
    private static final int SLOTS = 2;

    private static final int LAST_KIND = 3;
    private static final int STEEP = 1, BENT = 2, HUNGRY = 3;
    private static final int PLAIN = 0, CAREFUL = 1, CHILD = 3;

    private static final int MOST_LUCK = 99;
    private static final int BENT_HOLDS = 12;
    private static final int WORTH_THE_MUD = 4;
    private static final int LUCK_FOR_GOLD = 5;
    private static final int EVERYBODY = (1 << MOST_PEOPLE) - 1;

    private static final int MOST_GIVEN = 9;
    private static final int MOST_DAYS = 20;
    private static final int DAYS_AHEAD = 6;
    private static final int MOST_DOINGS = 4;
    private static final int TENTHS = 10;
    private static final int MOST_GOLD_ASKED = 60;
    private static final int MOST_YEARS = 30;
    private static final int FIRST_PERSON_DRAWN = 10, FIRST_DAY_DRAWN = 15, DRAWN = 30;
    private static final long SEED_FACTOR = 6364136223846793005L;
    private static final long SEED_STEP = 1442695040888963407L;
    private static final int UPPER_31_BITS = 33;
    private static final int[] KINDS_SEEN = {PLAIN, STEEP, HUNGRY};

    private final Text text;
    private final Market told;
    private final Market fixed;
    private final Street now;
    private final Street trial;
    private final Acts acts;
    private final Seen seen;
    private final Forecast forecast;
    private final Street[] kept;
    private final boolean[] isKept;
    private long theSeed;

    public UnderLadders() {
        text = new Text();
        told = new Market();
        fixed = new Market();
        now = new Street(fixed);
        trial = new Street(fixed);
        acts = new Acts(fixed);
        seen = new Seen();
        forecast = new Forecast(fixed, now, trial);
        kept = new Street[SLOTS];
        for (int slot = 0; slot < SLOTS; slot++) {
            kept[slot] = new Street(fixed);
        }
        isKept = new boolean[SLOTS];
    }

    // ---- the market

    public int write(int letter) {
        if (letter < 0 || letter > 255) {
            return OUTSIDE;
        }
        return text.add(letter);
    }

    public int wipe() {
        return text.clear();
    }

    public int fault() {
        return told.readFrom(text);
    }

    public int market() {
        if (told.readFrom(text) != NONE) {
            return STATE;
        }
        fixed.readFrom(text);
        now.begin();
        acts.clear();
        for (int slot = 0; slot < SLOTS; slot++) {
            isKept[slot] = false;
        }
        return 10 * fixed.ladders + fixed.people;
    }

    public int ladder(int ladder, int what) {
        if (!isLadder(ladder)) {
            return UNKNOWN;
        }
        switch (what) {
            case 0: return now.stand[ladder];
            case 1: return fixed.take[ladder];
            case 2: return fixed.ladderKind[ladder];
            case 3: return now.manLuck[ladder];
            case 4: return now.manGold[ladder];
            default: return OUTSIDE;
        }
    }

    public int person(int person, int what) {
        if (!isPerson(person)) {
            return UNKNOWN;
        }
        switch (what) {
            case 0: return fixed.home[person];
            case 1: return fixed.work[person];
            case 2: return fixed.personKind[person];
            case 3: return now.where[person];
            case 4: return now.ownLuck[person];
            case 5: return now.laddersAhead(person);
            default: return OUTSIDE;
        }
    }

    public int at(int place) {
        return isPlace(place) ? now.standing[place] : UNKNOWN;
    }

    // ---- acts

    public int day() {
        acts.remember(now);
        return now.passDay(EVERYBODY);
    }

    public int move(int ladder, int place) {
        if (!isLadder(ladder) || !isPlace(place)) {
            return UNKNOWN;
        }
        if (!now.isFree(place)) {
            return STATE;
        }
        acts.remember(now);
        int before = now.stand[ladder];
        now.put(ladder, place);
        return before;
    }

    public int down(int ladder) {
        if (!isLadder(ladder)) {
            return UNKNOWN;
        }
        acts.remember(now);
        int had = now.manGold[ladder];
        now.changeMan(ladder);
        return had;
    }

    public int give(int person, int n) {
        if (!isPerson(person)) {
            return UNKNOWN;
        }
        if (n < 1 || n > MOST_GIVEN) {
            return OUTSIDE;
        }
        acts.remember(now);
        now.endow(person, n);
        return now.ownLuck[person];
    }

    public int undo() {
        return acts.takeBack(now) ? acts.size : STATE;
    }

    // ---- days to come, places

    public int luck(int person, int n) {
        if (!isPerson(person)) {
            return UNKNOWN;
        }
        if (n < 0 || n > MOST_DAYS) {
            return OUTSIDE;
        }
        forecast.goAhead(n);
        return trial.ownLuck[person];
    }

    public int gold(int ladder, int n) {
        if (!isLadder(ladder)) {
            return UNKNOWN;
        }
        if (n < 0 || n > MOST_DAYS) {
            return OUTSIDE;
        }
        forecast.goAhead(n);
        return trial.manGold[ladder];
    }

    public int lost(int person) {
        return isPerson(person) ? forecast.daysToNothing(person) : UNKNOWN;
    }

    public int spot(int ladder, int what) {
        if (!isLadder(ladder)) {
            return UNKNOWN;
        }
        if (what < 0 || what > 1) {
            return OUTSIDE;
        }
        forecast.findSpot(ladder);
        return what == 0 ? forecast.best : forecast.bestWorth;
    }

    public int round(int person, int what) {
        if (!isPerson(person)) {
            return UNKNOWN;
        }
        if (what < 0 || what > 1) {
            return OUTSIDE;
        }
        forecast.findRound(person);
        return what == 0 ? forecast.best : forecast.bestWorth;
    }

    public int judge(int n, long row) {
        if (n < 1 || n > MOST_DOINGS || row < 0) {
            return OUTSIDE;
        }
        return forecast.takeDoings(n, row) ? forecast.firstWrong(n) : OUTSIDE;
    }

    // ---- seen

    public int see(int a, int b) {
        if (a < 0 || a > MOST_SEEN_LUCK || b < 0 || b > a) {
            return OUTSIDE;
        }
        return seen.add(a, b);
    }

    public int unsee() {
        return seen.clear();
    }

    public int may(int what) {
        if (what < 0 || what > 1) {
            return OUTSIDE;
        }
        return what == 0 ? seen.countFitting() : seen.firstFitting();
    }

    // ---- shares, rests, chances

    public int share(int person, int ladder, boolean upper) {
        if (!isPerson(person) || !isLadder(ladder)) {
            return UNKNOWN;
        }
        forecast.weighCompanies(ladder);
        return inLeastTerms(forecast.sumOfGains(person), ordersOf(fixed.people), upper);
    }

    public int rests(int one, int other, int what) {
        if (!isLadder(one) || !isLadder(other)) {
            return UNKNOWN;
        }
        if (one == other || what < 0 || what > 1) {
            return OUTSIDE;
        }
        forecast.weighPairs(one, other);
        return what == 0 ? forecast.countRests() : forecast.firstRest();
    }

    public int stays(int ladder, int m, int x, boolean upper) {
        if (!isLadder(ladder)) {
            return UNKNOWN;
        }
        if (m < 0 || m > MOST_GOLD_ASKED || x < 0 || x > TENTHS) {
            return OUTSIDE;
        }
        int below = 1;
        for (int person = 0; person < fixed.people; person++) {
            below *= TENTHS;
        }
        return inLeastTerms(forecast.chancesOfGold(ladder, m, x), below, upper);
    }

    public long seed(long v) {
        long before = theSeed;
        theSeed = v;
        return before;
    }

    public int years(int m) {
        if (m < 1 || m > MOST_YEARS) {
            return OUTSIDE;
        }
        trial.setTo(now);
        int together = 0;
        for (int time = 0; time < m; time++) {
            theSeed = theSeed * SEED_FACTOR + SEED_STEP;
            trial.doDrawn((int) ((theSeed >>> UPPER_31_BITS) % DRAWN));
            together += trial.goldOfMen();
        }
        return together;
    }

    // ---- slots

    public int keep(int slot) {
        if (!isSlot(slot)) {
            return UNKNOWN;
        }
        kept[slot].setTo(now);
        isKept[slot] = true;
        return now.days;
    }

    public int again(int slot) {
        if (!isSlot(slot)) {
            return UNKNOWN;
        }
        if (!isKept[slot]) {
            return STATE;
        }
        now.setTo(kept[slot]);
        acts.clear();
        return now.days;
    }

    public int count(int what) {
        switch (what) {
            case 0: return text.length;
            case 1: return fixed.ladders;
            case 2: return fixed.people;
            case 3: return now.days;
            case 4: return now.luckOfPeople();
            case 5: return now.luckOfMen();
            case 6: return now.goldOfMen();
            case 7: return now.peopleAtHome();
            case 8: return acts.size;
            case 9: return seen.size;
            default: return OUTSIDE;
        }
    }

    private boolean isLadder(int ladder) {
        return ladder >= 0 && ladder < fixed.ladders;
    }

    private boolean isPerson(int person) {
        return person >= 0 && person < fixed.people;
    }

    private static boolean isPlace(int place) {
        return place >= 0 && place < PLACES;
    }

    private static boolean isSlot(int slot) {
        return slot >= 0 && slot < SLOTS;
    }

    /** What a ladder takes of one that goes under it with so much luck. */
    private static int taken(int kind, int take, int luck) {
        if (kind == HUNGRY) {
            return luck;
        }
        int most = kind == STEEP ? luck / 2 : luck;
        return most < take ? most : take;
    }

    private static int lessByMud(int luck) {
        return luck > 0 ? luck - 1 : 0;
    }

    /** In how many orders so many people can come. */
    private static int ordersOf(int people) {
        int orders = 1;
        for (int next = 2; next <= people; next++) {
            orders *= next;
        }
        return orders;
    }

    private static int inLeastTerms(int above, int below, boolean upper) {
        int divisor = commonDivisor(above < 0 ? -above : above, below);
        if (divisor < 1) {
            return upper ? above : below;
        }
        return upper ? above / divisor : below / divisor;
    }

    private static int commonDivisor(int a, int b) {
        int greater = a;
        int rest = b;
        // Euclid's steps on ints are fewer than fifty; the counter only shows the end.
        for (int step = 0; step < 64 && rest != 0; step++) {
            int left = greater % rest;
            greater = rest;
            rest = left;
        }
        return greater;
    }

    /** The letters that have been written. */
    private static final class Text {
        private final int[] letters;
        private int length;

        Text() {
            letters = new int[MOST_LETTERS];
        }

        int add(int letter) {
            if (length >= MOST_LETTERS) {
                return FULL;
            }
            letters[length] = letter;
            length++;
            return length;
        }

        int clear() {
            int before = length;
            length = 0;
            return before;
        }

        int letterAt(int index) {
            return index >= 0 && index < length ? letters[index] : NONE;
        }

        /** NONE behind the end too, so that a reader stops there as at a wrong letter. */
        int figureAt(int index) {
            int letter = letterAt(index);
            return letter >= '0' && letter <= '9' ? letter - '0' : NONE;
        }
    }

    /** What a text tells: all that stays as it is, and how all begins. */
    private static final class Market {
        private static final int LADDER_LETTERS = 4, PERSON_LETTERS = 5;

        private final int[] firstStand;
        private final int[] take;
        private final int[] ladderKind;
        private final int[] home;
        private final int[] work;
        private final int[] firstLuck;
        private final int[] personKind;
        private int ladders;
        private int people;

        Market() {
            firstStand = new int[MOST_LADDERS];
            take = new int[MOST_LADDERS];
            ladderKind = new int[MOST_LADDERS];
            home = new int[MOST_PEOPLE];
            work = new int[MOST_PEOPLE];
            firstLuck = new int[MOST_PEOPLE];
            personKind = new int[MOST_PEOPLE];
        }

        /** Answers the fault, or NONE. */
        int readFrom(Text text) {
            ladders = 0;
            people = 0;
            if (text.letterAt(0) != 'M') {
                return 0;
            }
            int index = 1;
            // One part more than there can be, for the one that is too many.
            for (int part = 0; part <= MOST_LADDERS + MOST_PEOPLE && index < text.length; part++) {
                boolean isLadderPart = text.letterAt(index) == 'L';
                int fault = isLadderPart ? readLadder(text, index) : readPerson(text, index);
                if (fault != NONE) {
                    return fault;
                }
                index += isLadderPart ? LADDER_LETTERS : PERSON_LETTERS;
            }
            return NONE;
        }

        private int readLadder(Text text, int index) {
            if (ladders >= MOST_LADDERS) {
                return index;
            }
            int p = text.figureAt(index + 1);
            if (p < 0 || isTold(p)) {
                return index + 1;
            }
            int t = text.figureAt(index + 2);
            if (t < 1) {
                return index + 2;
            }
            int k = text.figureAt(index + 3);
            if (k < 0 || k > LAST_KIND) {
                return index + 3;
            }
            firstStand[ladders] = p;
            take[ladders] = t;
            ladderKind[ladders] = k;
            ladders++;
            return NONE;
        }

        private int readPerson(Text text, int index) {
            if (text.letterAt(index) != 'P' || people >= MOST_PEOPLE) {
                return index;
            }
            int h = text.figureAt(index + 1);
            if (h < 0) {
                return index + 1;
            }
            int w = text.figureAt(index + 2);
            if (w < 0 || w == h) {
                return index + 2;
            }
            int l = text.figureAt(index + 3);
            if (l < 0) {
                return index + 3;
            }
            int k = text.figureAt(index + 4);
            if (k < 0 || k > LAST_KIND) {
                return index + 4;
            }
            home[people] = h;
            work[people] = w;
            firstLuck[people] = l;
            personKind[people] = k;
            people++;
            return NONE;
        }

        private boolean isTold(int place) {
            for (int ladder = 0; ladder < ladders; ladder++) {
                if (firstStand[ladder] == place) {
                    return true;
                }
            }
            return false;
        }
    }

    /** Where all are and what all have: what acts change. */
    private static final class Street {
        private final Market fixed;
        private final int[] stand;
        /** The ladder of each place, or NONE: the same as stand, for those who walk by. */
        private final int[] standing;
        private final int[] manLuck;
        private final int[] manGold;
        private final int[] where;
        private final int[] ownLuck;
        private int days;

        Street(Market market) {
            fixed = market;
            stand = new int[MOST_LADDERS];
            standing = new int[PLACES];
            manLuck = new int[MOST_LADDERS];
            manGold = new int[MOST_LADDERS];
            where = new int[MOST_PEOPLE];
            ownLuck = new int[MOST_PEOPLE];
            for (int place = 0; place < PLACES; place++) {
                standing[place] = NONE;
            }
        }

        void begin() {
            for (int place = 0; place < PLACES; place++) {
                standing[place] = NONE;
            }
            for (int ladder = 0; ladder < fixed.ladders; ladder++) {
                stand[ladder] = fixed.firstStand[ladder];
                mark(stand[ladder], ladder);
                changeMan(ladder);
            }
            for (int person = 0; person < fixed.people; person++) {
                where[person] = fixed.home[person];
                ownLuck[person] = fixed.firstLuck[person];
            }
            days = 0;
        }

        void setTo(Street other) {
            System.arraycopy(other.stand, 0, stand, 0, MOST_LADDERS);
            System.arraycopy(other.standing, 0, standing, 0, PLACES);
            System.arraycopy(other.manLuck, 0, manLuck, 0, MOST_LADDERS);
            System.arraycopy(other.manGold, 0, manGold, 0, MOST_LADDERS);
            System.arraycopy(other.where, 0, where, 0, MOST_PEOPLE);
            System.arraycopy(other.ownLuck, 0, ownLuck, 0, MOST_PEOPLE);
            days = other.days;
        }

        boolean isFree(int place) {
            return isPlace(place) && standing[place] == NONE;
        }

        boolean isOwnOrFree(int ladder, int place) {
            return isPlace(place) && (standing[place] == ladder || standing[place] == NONE);
        }

        void put(int ladder, int place) {
            mark(stand[ladder], NONE);
            stand[ladder] = place;
            mark(place, ladder);
        }

        private void mark(int place, int ladder) {
            if (isPlace(place)) {
                standing[place] = ladder;
            }
        }

        void changeMan(int ladder) {
            manLuck[ladder] = 0;
            manGold[ladder] = 0;
        }

        void endow(int person, int n) {
            int more = ownLuck[person] + n;
            ownLuck[person] = more < MOST_LUCK ? more : MOST_LUCK;
        }

        void passDays(int n, int goers) {
            for (int i = 0; i < n; i++) {
                passDay(goers);
            }
        }

        /** Goers are the people, as bits, who do not stay; answers the gold that was got. */
        int passDay(int goers) {
            for (int person = 0; person < fixed.people; person++) {
                if ((goers >> person & 1) == 1) {
                    walk(person);
                }
            }
            int got = 0;
            for (int ladder = 0; ladder < fixed.ladders; ladder++) {
                int more = manLuck[ladder] / LUCK_FOR_GOLD;
                manGold[ladder] += more;
                manLuck[ladder] -= more * LUCK_FOR_GOLD;
                got += more;
            }
            days++;
            return got;
        }

        private void walk(int person) {
            int steps = stepsAhead(person);
            for (int step = 1; step <= steps; step++) {
                int ladder = ladderAhead(person, step);
                if (ladder != NONE) {
                    meet(person, ladder);
                }
            }
            where[person] = goal(person);
        }

        private int goal(int person) {
            return where[person] == fixed.home[person] ? fixed.work[person] : fixed.home[person];
        }

        private int stepsAhead(int person) {
            return Math.abs(goal(person) - where[person]);
        }

        /** The ladder at a step (from 1 to the last) of the next way, or NONE. */
        private int ladderAhead(int person, int step) {
            int from = where[person];
            int place = from < goal(person) ? from + step : from - step;
            return isPlace(place) ? standing[place] : NONE;
        }

        private void meet(int person, int ladder) {
            int kind = fixed.personKind[person];
            int has = ownLuck[person];
            if (kind == CAREFUL || kind == PLAIN && has >= WORTH_THE_MUD) {
                ownLuck[person] = lessByMud(has);
                return;
            }
            int ladderKind = fixed.ladderKind[ladder];
            int goes = taken(ladderKind, fixed.take[ladder], has);
            ownLuck[person] = has - goes;
            manLuck[ladder] += goes;
            if (ladderKind == BENT && manLuck[ladder] > BENT_HOLDS) {
                manLuck[ladder] = BENT_HOLDS;
            }
            if (kind == CHILD) {
                endow(person, 1);
            }
        }

        int laddersAhead(int person) {
            int steps = stepsAhead(person);
            int bits = 0;
            for (int step = 1; step <= steps; step++) {
                int ladder = ladderAhead(person, step);
                if (ladder != NONE) {
                    bits |= 1 << ladder;
                }
            }
            return bits;
        }

        /** Luck at the end of the next way, if one steps round these ladders and goes under the others. */
        int luckByStepping(int person, int rounded) {
            int steps = stepsAhead(person);
            int has = ownLuck[person];
            for (int step = 1; step <= steps; step++) {
                int ladder = ladderAhead(person, step);
                if (ladder == NONE) {
                    continue;
                }
                if ((rounded >> ladder & 1) == 1) {
                    has = lessByMud(has);
                } else {
                    has -= taken(fixed.ladderKind[ladder], fixed.take[ladder], has);
                }
            }
            return has;
        }

        /** What a number drawn by the seed brings; nothing, where it can not be. */
        void doDrawn(int drawn) {
            if (drawn >= FIRST_DAY_DRAWN) {
                passDay(EVERYBODY);
            } else if (drawn >= FIRST_PERSON_DRAWN) {
                int person = drawn - FIRST_PERSON_DRAWN;
                if (person < fixed.people) {
                    endow(person, 1);
                }
            } else if (drawn >= 0 && fixed.ladders > 0 && isFree(drawn)) {
                put(0, drawn);
            }
        }

        int luckOfPeople() {
            int sum = 0;
            for (int person = 0; person < fixed.people; person++) {
                sum += ownLuck[person];
            }
            return sum;
        }

        int luckOfMen() {
            int sum = 0;
            for (int ladder = 0; ladder < fixed.ladders; ladder++) {
                sum += manLuck[ladder];
            }
            return sum;
        }

        int goldOfMen() {
            int sum = 0;
            for (int ladder = 0; ladder < fixed.ladders; ladder++) {
                sum += manGold[ladder];
            }
            return sum;
        }

        int peopleAtHome() {
            int bits = 0;
            for (int person = 0; person < fixed.people; person++) {
                if (where[person] == fixed.home[person]) {
                    bits |= 1 << person;
                }
            }
            return bits;
        }
    }

    /** The row of acts, each kept as the street was before it: a ring, so that the first one can be forgotten. */
    private static final class Acts {
        private final Street[] before;
        private int next;
        private int size;

        Acts(Market market) {
            before = new Street[MOST_ACTS];
            for (int i = 0; i < MOST_ACTS; i++) {
                before[i] = new Street(market);
            }
        }

        void clear() {
            size = 0;
        }

        void remember(Street street) {
            before[next].setTo(street);
            next = next + 1 < MOST_ACTS ? next + 1 : 0;
            if (size < MOST_ACTS) {
                size++;
            }
        }

        boolean takeBack(Street street) {
            if (size == 0) {
                return false;
            }
            next = next > 0 ? next - 1 : MOST_ACTS - 1;
            size--;
            street.setTo(before[next]);
            return true;
        }
    }

    /** What has been seen of one ladder, and which kinds and takes it may have. */
    private static final class Seen {
        private static final int MOST_TAKEN = 9;

        private final int[] ahead;
        private final int[] behind;
        private int size;

        Seen() {
            ahead = new int[MOST_SEEN];
            behind = new int[MOST_SEEN];
        }

        int add(int a, int b) {
            if (size >= MOST_SEEN) {
                return FULL;
            }
            ahead[size] = a;
            behind[size] = b;
            size++;
            return size;
        }

        int clear() {
            int was = size;
            size = 0;
            return was;
        }

        int countFitting() {
            int fitting = 0;
            for (int i = 0; i < KINDS_SEEN.length; i++) {
                for (int take = 1; take <= MOST_TAKEN; take++) {
                    if (fits(KINDS_SEEN[i], take)) {
                        fitting++;
                    }
                }
            }
            return fitting;
        }

        int firstFitting() {
            for (int i = 0; i < KINDS_SEEN.length; i++) {
                for (int take = 1; take <= MOST_TAKEN; take++) {
                    if (fits(KINDS_SEEN[i], take)) {
                        return 10 * KINDS_SEEN[i] + take;
                    }
                }
            }
            return NONE;
        }

        private boolean fits(int kind, int take) {
            for (int i = 0; i < size; i++) {
                if (ahead[i] - taken(kind, take, ahead[i]) != behind[i]) {
                    return false;
                }
            }
            return true;
        }
    }

    /** Questions about what would be: all is tried on another street, none of it changes the one there is. */
    private static final class Forecast {
        private static final int DAY = 0, MOVED = 1, DOWN = 2, GIVEN = 3, HAS = 4;

        private final Market fixed;
        private final Street now;
        private final Street trial;
        private final int[] doings;
        private final int[] worth;
        private final int[] oneGold;
        private final int[] otherGold;
        private int best;
        private int bestWorth;

        Forecast(Market market, Street present, Street tried) {
            fixed = market;
            now = present;
            trial = tried;
            doings = new int[MOST_DOINGS];
            worth = new int[EVERYBODY + 1];
            oneGold = new int[PLACES * PLACES];
            otherGold = new int[PLACES * PLACES];
        }

        void goAhead(int n) {
            trial.setTo(now);
            trial.passDays(n, EVERYBODY);
        }

        int daysToNothing(int person) {
            trial.setTo(now);
            for (int n = 0; n < MOST_DAYS; n++) {
                if (trial.ownLuck[person] == 0) {
                    return n;
                }
                trial.passDay(EVERYBODY);
            }
            return trial.ownLuck[person] == 0 ? MOST_DAYS : NONE;
        }

        void findSpot(int ladder) {
            best = NONE;
            bestWorth = NONE;
            int bestLuck = NONE;
            for (int place = 0; place < PLACES; place++) {
                if (!now.isOwnOrFree(ladder, place)) {
                    continue;
                }
                trial.setTo(now);
                trial.put(ladder, place);
                trial.passDays(DAYS_AHEAD, EVERYBODY);
                int gold = trial.manGold[ladder];
                int luck = trial.manLuck[ladder];
                if (gold > bestWorth || gold == bestWorth && luck > bestLuck) {
                    best = place;
                    bestWorth = gold;
                    bestLuck = luck;
                }
            }
        }

        void findRound(int person) {
            int ahead = now.laddersAhead(person);
            best = 0;
            bestWorth = now.luckByStepping(person, 0);
            for (int rounded = 1; rounded < 1 << MOST_LADDERS; rounded++) {
                if ((rounded & ahead) != rounded) {
                    continue;
                }
                int luck = now.luckByStepping(person, rounded);
                if (luck > bestWorth || luck == bestWorth && Integer.bitCount(rounded) < Integer.bitCount(best)) {
                    best = rounded;
                    bestWorth = luck;
                }
            }
        }

        /** False: the row has more figures than n doings. */
        boolean takeDoings(int n, long row) {
            long left = row;
            for (int i = n - 1; i >= 0; i--) {
                doings[i] = (int) (left % 1000);
                left /= 1000;
            }
            return left == 0;
        }

        int firstWrong(int n) {
            trial.setTo(now);
            for (int i = 0; i < n; i++) {
                if (!doTold(doings[i] / 100, doings[i] / 10 % 10, doings[i] % 10)) {
                    return i;
                }
            }
            return NONE;
        }

        private boolean doTold(int doing, int middle, int last) {
            if (!canBe(doing, middle, last)) {
                return false;
            }
            switch (doing) {
                case DAY: trial.passDay(EVERYBODY); break;
                case MOVED: trial.put(middle, last); break;
                case DOWN: trial.changeMan(last); break;
                case GIVEN: trial.endow(middle, last); break;
                default: break;
            }
            return true;
        }

        private boolean canBe(int doing, int middle, int last) {
            switch (doing) {
                case DAY: return middle == 0 && last == 0;
                case MOVED: return middle < fixed.ladders && trial.isFree(last);
                case DOWN: return middle == 0 && last < fixed.ladders;
                case GIVEN: return middle < fixed.people && last > 0;
                case HAS: return middle < fixed.people && trial.ownLuck[middle] >= last;
                default: return false;
            }
        }

        /** The gold that each company of people, as bits, brings the man on a ladder. */
        void weighCompanies(int ladder) {
            for (int company = 0; company < 1 << fixed.people; company++) {
                trial.setTo(now);
                trial.passDays(DAYS_AHEAD, company);
                worth[company] = trial.manGold[ladder];
            }
        }

        /** Over all orders in which people can come, the gold that comes with this one. */
        int sumOfGains(int person) {
            int sum = 0;
            for (int company = 0; company < 1 << fixed.people; company++) {
                int joined = company | 1 << person;
                if (joined == company || joined >= worth.length) {
                    continue;
                }
                int earlier = Integer.bitCount(company);
                int later = fixed.people - 1 - earlier;
                sum += ordersOf(earlier) * ordersOf(later) * (worth[joined] - worth[company]);
            }
            return sum;
        }

        /** The gold of both men by each pair of places; NONE where they can not stand so. */
        void weighPairs(int one, int other) {
            for (int pair = 0; pair < PLACES * PLACES; pair++) {
                int place = pair / PLACES;
                int otherPlace = pair % PLACES;
                oneGold[pair] = NONE;
                otherGold[pair] = NONE;
                if (place != otherPlace && now.isOwnOrFree(one, place) && now.isOwnOrFree(other, otherPlace)) {
                    trial.setTo(now);
                    trial.put(one, place);
                    trial.put(other, otherPlace);
                    trial.passDays(DAYS_AHEAD, EVERYBODY);
                    oneGold[pair] = trial.manGold[one];
                    otherGold[pair] = trial.manGold[other];
                }
            }
        }

        int countRests() {
            int resting = 0;
            for (int pair = 0; pair < PLACES * PLACES; pair++) {
                if (isRest(pair)) {
                    resting++;
                }
            }
            return resting;
        }

        int firstRest() {
            for (int pair = 0; pair < PLACES * PLACES; pair++) {
                if (isRest(pair)) {
                    return pair;
                }
            }
            return NONE;
        }

        /** Pairs that can not be hold NONE, which is less than any gold, and so tempt nobody. */
        private boolean isRest(int pair) {
            if (oneGold[pair] == NONE) {
                return false;
            }
            int place = pair / PLACES;
            int otherPlace = pair % PLACES;
            for (int another = 0; another < PLACES; another++) {
                int oneMoved = another * PLACES + otherPlace;
                int otherMoved = place * PLACES + another;
                if (oneGold[oneMoved] > oneGold[pair] || otherGold[otherMoved] > otherGold[pair]) {
                    return false;
                }
            }
            return true;
        }

        /** The weight, in tenths for each person, of all ways to go or stay by which there is so much gold. */
        int chancesOfGold(int ladder, int m, int x) {
            int sum = 0;
            for (int goers = 0; goers < 1 << fixed.people; goers++) {
                trial.setTo(now);
                trial.passDay(goers);
                if (trial.manGold[ladder] >= m) {
                    sum += weightOf(goers, x);
                }
            }
            return sum;
        }

        private int weightOf(int goers, int x) {
            int weight = 1;
            for (int person = 0; person < fixed.people; person++) {
                weight *= (goers >> person & 1) == 1 ? TENTHS - x : x;
            }
            return weight;
        }
    }
}
