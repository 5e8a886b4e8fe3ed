import java.math.BigInteger;
import java.util.ArrayDeque;
import java.util.ArrayList;
import java.util.Arrays;
import java.util.List;
import java.util.regex.Matcher;
import java.util.regex.Pattern;

/**
 * The document said once more, as slowly and plainly as may be, with the whole Java library:
 * what ModelTest holds the class against. It shares no code and no way of reckoning with it.
 */
final class Model {
    static final int UNKNOWN = -1, OUTSIDE = -2, STATE = -3, FULL = -4, NONE = -9;

    static final class Ladder {
        int place, t, kind, luck, gold;

        Ladder copy() {
            Ladder c = new Ladder();
            c.place = place;
            c.t = t;
            c.kind = kind;
            c.luck = luck;
            c.gold = gold;
            return c;
        }
    }

    static final class Person {
        int home, work, kind, where, luck;

        Person copy() {
            Person c = new Person();
            c.home = home;
            c.work = work;
            c.kind = kind;
            c.where = where;
            c.luck = luck;
            return c;
        }

        int goal() {
            return where == home ? work : home;
        }

        List<Integer> way() {
            List<Integer> places = new ArrayList<>();
            int here = where;
            while (here != goal()) {
                here += Integer.signum(goal() - here);
                places.add(here);
            }
            return places;
        }
    }

    static final class World {
        List<Ladder> ladders = new ArrayList<>();
        List<Person> people = new ArrayList<>();
        int day;

        World copy() {
            World c = new World();
            for (Ladder l : ladders) {
                c.ladders.add(l.copy());
            }
            for (Person p : people) {
                c.people.add(p.copy());
            }
            c.day = day;
            return c;
        }

        int ladderAt(int place) {
            for (int i = 0; i < ladders.size(); i++) {
                if (ladders.get(i).place == place) {
                    return i;
                }
            }
            return NONE;
        }

        int gold() {
            return ladders.stream().mapToInt(l -> l.gold).sum();
        }

        void under(Person p, Ladder l) {
            int takes = takes(l.kind, l.t, p.luck);
            p.luck -= takes;
            l.luck += takes;
            if (l.kind == 2) {
                l.luck = Math.min(12, l.luck);
            }
        }

        void go(Person p) {
            for (int place : p.way()) {
                int i = ladderAt(place);
                if (i == NONE) {
                    continue;
                }
                Ladder l = ladders.get(i);
                switch (p.kind) {
                    case 0 -> {
                        if (p.luck >= 4) {
                            p.luck--;
                        } else {
                            under(p, l);
                        }
                    }
                    case 1 -> p.luck = Math.max(0, p.luck - 1);
                    case 2 -> under(p, l);
                    default -> {
                        under(p, l);
                        p.luck = Math.min(99, p.luck + 1);
                    }
                }
            }
            p.where = p.goal();
        }

        int day(List<Integer> goers) {
            int before = gold();
            for (int i = 0; i < people.size(); i++) {
                if (goers.contains(i)) {
                    go(people.get(i));
                }
            }
            for (Ladder l : ladders) {
                while (l.luck >= 5) {
                    l.luck -= 5;
                    l.gold++;
                }
            }
            day++;
            return gold() - before;
        }

        int day() {
            return day(Arrays.asList(0, 1, 2, 3, 4));
        }

        World in(int days) {
            World w = copy();
            for (int i = 0; i < days; i++) {
                w.day();
            }
            return w;
        }
    }

    static int takes(int kind, int t, int luck) {
        return switch (kind) {
            case 1 -> Math.min(t, luck / 2);
            case 3 -> luck;
            default -> Math.min(t, luck);
        };
    }

    private static final Pattern FORM =
            Pattern.compile("M(?:L[0-9][1-9][0-3]|P(?:([0-9])(?!\\1)[0-9])[0-9][0-3])*", Pattern.DOTALL);

    String text = "";
    World world = new World();
    ArrayDeque<World> acts = new ArrayDeque<>();
    List<int[]> seen = new ArrayList<>();
    World[] slots = new World[2];
    long seed;

    // ---- the market

    int write(int letter) {
        if (letter < 0 || letter > 255) {
            return OUTSIDE;
        }
        if (text.length() == 48) {
            return FULL;
        }
        text += (char) letter;
        return text.length();
    }

    int wipe() {
        int n = text.length();
        text = "";
        return n;
    }

    private static boolean numbersCanBe(String s) {
        List<Character> places = new ArrayList<>();
        int ladders = 0;
        int people = 0;
        for (int i = 0; i < s.length(); i++) {
            if (s.charAt(i) == 'P') {
                people++;
            }
            if (s.charAt(i) == 'L') {
                ladders++;
                if (i + 1 < s.length()) {
                    if (places.contains(s.charAt(i + 1))) {
                        return false;
                    }
                    places.add(s.charAt(i + 1));
                }
            }
        }
        return ladders <= 4 && people <= 5;
    }

    private static boolean canBecomeMarket(String s) {
        Matcher m = FORM.matcher(s);
        return (m.matches() || m.hitEnd()) && numbersCanBe(s);
    }

    int fault() {
        for (int i = 0; i < text.length(); i++) {
            if (!canBecomeMarket(text.substring(0, i + 1))) {
                return i;
            }
        }
        return FORM.matcher(text).matches() ? NONE : text.length();
    }

    int market() {
        if (fault() != NONE) {
            return STATE;
        }
        world = new World();
        for (int i = 0; i < text.length(); i++) {
            if (text.charAt(i) == 'L') {
                Ladder l = new Ladder();
                l.place = text.charAt(i + 1) - '0';
                l.t = text.charAt(i + 2) - '0';
                l.kind = text.charAt(i + 3) - '0';
                world.ladders.add(l);
            }
            if (text.charAt(i) == 'P') {
                Person p = new Person();
                p.home = text.charAt(i + 1) - '0';
                p.work = text.charAt(i + 2) - '0';
                p.luck = text.charAt(i + 3) - '0';
                p.kind = text.charAt(i + 4) - '0';
                p.where = p.home;
                world.people.add(p);
            }
        }
        acts.clear();
        slots = new World[2];
        return 10 * world.ladders.size() + world.people.size();
    }

    private boolean noLadder(int i) {
        return i < 0 || i >= world.ladders.size();
    }

    private boolean noPerson(int i) {
        return i < 0 || i >= world.people.size();
    }

    int ladder(int i, int what) {
        if (noLadder(i)) {
            return UNKNOWN;
        }
        if (what < 0 || what > 4) {
            return OUTSIDE;
        }
        Ladder l = world.ladders.get(i);
        return new int[] {l.place, l.t, l.kind, l.luck, l.gold}[what];
    }

    int person(int i, int what) {
        if (noPerson(i)) {
            return UNKNOWN;
        }
        if (what < 0 || what > 5) {
            return OUTSIDE;
        }
        Person p = world.people.get(i);
        int bits = 0;
        for (int l = 0; l < world.ladders.size(); l++) {
            if (p.way().contains(world.ladders.get(l).place)) {
                bits += 1 << l;
            }
        }
        return new int[] {p.home, p.work, p.kind, p.where, p.luck, bits}[what];
    }

    int at(int place) {
        return place < 0 || place > 9 ? UNKNOWN : world.ladderAt(place);
    }

    // ---- acts

    private void act() {
        acts.addLast(world.copy());
        if (acts.size() > 14) {
            acts.removeFirst();
        }
    }

    int day() {
        act();
        return world.day();
    }

    int move(int i, int place) {
        if (noLadder(i) || place < 0 || place > 9) {
            return UNKNOWN;
        }
        if (world.ladderAt(place) != NONE) {
            return STATE;
        }
        act();
        int was = world.ladders.get(i).place;
        world.ladders.get(i).place = place;
        return was;
    }

    int down(int i) {
        if (noLadder(i)) {
            return UNKNOWN;
        }
        act();
        int had = world.ladders.get(i).gold;
        world.ladders.get(i).gold = 0;
        world.ladders.get(i).luck = 0;
        return had;
    }

    int give(int i, int n) {
        if (noPerson(i)) {
            return UNKNOWN;
        }
        if (n < 1 || n > 9) {
            return OUTSIDE;
        }
        act();
        Person p = world.people.get(i);
        p.luck = Math.min(99, p.luck + n);
        return p.luck;
    }

    int undo() {
        if (acts.isEmpty()) {
            return STATE;
        }
        world = acts.removeLast();
        return acts.size();
    }

    // ---- days to come, places

    int luck(int i, int n) {
        return noPerson(i) ? UNKNOWN : n < 0 || n > 20 ? OUTSIDE : world.in(n).people.get(i).luck;
    }

    int gold(int i, int n) {
        return noLadder(i) ? UNKNOWN : n < 0 || n > 20 ? OUTSIDE : world.in(n).ladders.get(i).gold;
    }

    int lost(int i) {
        if (noPerson(i)) {
            return UNKNOWN;
        }
        for (int n = 0; n <= 20; n++) {
            if (world.in(n).people.get(i).luck == 0) {
                return n;
            }
        }
        return NONE;
    }

    int spot(int i, int what) {
        if (noLadder(i)) {
            return UNKNOWN;
        }
        if (what != 0 && what != 1) {
            return OUTSIDE;
        }
        List<int[]> all = new ArrayList<>();
        for (int place = 0; place <= 9; place++) {
            if (world.ladderAt(place) == NONE || world.ladderAt(place) == i) {
                World w = world.copy();
                w.ladders.get(i).place = place;
                Ladder l = w.in(6).ladders.get(i);
                all.add(new int[] {-l.gold, -l.luck, place});
            }
        }
        all.sort(Arrays::compare);
        return what == 0 ? all.get(0)[2] : -all.get(0)[0];
    }

    int round(int i, int what) {
        if (noPerson(i)) {
            return UNKNOWN;
        }
        if (what != 0 && what != 1) {
            return OUTSIDE;
        }
        List<int[]> all = new ArrayList<>();
        rounds(world.people.get(i).way(), 0, world.people.get(i).luck, 0, all);
        all.sort(Arrays::compare);
        return what == 0 ? all.get(0)[2] : -all.get(0)[0];
    }

    private void rounds(List<Integer> way, int next, int luck, int bits, List<int[]> all) {
        if (next == way.size()) {
            all.add(new int[] {-luck, Integer.bitCount(bits), bits});
            return;
        }
        int l = world.ladderAt(way.get(next));
        if (l == NONE) {
            rounds(way, next + 1, luck, bits, all);
            return;
        }
        rounds(way, next + 1, Math.max(0, luck - 1), bits | 1 << l, all);
        int left = luck - takes(world.ladders.get(l).kind, world.ladders.get(l).t, luck);
        rounds(way, next + 1, left, bits, all);
    }

    int judge(int n, long row) {
        if (n < 1 || n > 4 || row < 0) {
            return OUTSIDE;
        }
        String figures = String.valueOf(row);
        if (figures.length() > 3 * n) {
            return OUTSIDE;
        }
        figures = "0".repeat(3 * n - figures.length()) + figures;
        Model other = new Model();
        other.world = world.copy();
        for (int i = 0; i < n; i++) {
            int a = figures.charAt(3 * i) - '0';
            int b = figures.charAt(3 * i + 1) - '0';
            int c = figures.charAt(3 * i + 2) - '0';
            boolean can = switch (a) {
                case 0 -> b == 0 && c == 0 && other.day() >= 0;
                case 1 -> other.move(b, c) >= 0;
                case 2 -> b == 0 && other.down(c) >= 0;
                case 3 -> other.give(b, c) >= 0;
                case 4 -> other.person(b, 4) >= c;
                default -> false;
            };
            if (!can) {
                return i;
            }
        }
        return NONE;
    }

    // ---- seen

    int see(int a, int b) {
        if (a < 0 || a > 20 || b < 0 || b > a) {
            return OUTSIDE;
        }
        if (seen.size() == 6) {
            return FULL;
        }
        seen.add(new int[] {a, b});
        return seen.size();
    }

    int unsee() {
        int n = seen.size();
        seen.clear();
        return n;
    }

    int may(int what) {
        if (what != 0 && what != 1) {
            return OUTSIDE;
        }
        List<Integer> all = new ArrayList<>();
        for (int kind : new int[] {0, 1, 3}) {
            for (int t = 1; t <= 9; t++) {
                int k = kind;
                int tt = t;
                if (seen.stream().allMatch(s -> takes(k, tt, s[0]) == s[0] - s[1])) {
                    all.add(10 * kind + t);
                }
            }
        }
        return what == 0 ? all.size() : all.isEmpty() ? NONE : all.get(0);
    }

    // ---- shares, rests, chances

    private static int told(long above, long below, boolean upper) {
        BigInteger a = BigInteger.valueOf(above);
        BigInteger b = BigInteger.valueOf(below);
        return (upper ? a : b).divide(a.gcd(b)).intValueExact();
    }

    int share(int i, int l, boolean upper) {
        if (noPerson(i) || noLadder(l)) {
            return UNKNOWN;
        }
        List<List<Integer>> orders = new ArrayList<>();
        orders(new ArrayList<>(), orders);
        long sum = 0;
        for (List<Integer> order : orders) {
            int turn = order.indexOf(i);
            sum += goldBy(order.subList(0, turn + 1), l) - goldBy(order.subList(0, turn), l);
        }
        return told(sum, orders.size(), upper);
    }

    private void orders(List<Integer> begun, List<List<Integer>> all) {
        if (begun.size() == world.people.size()) {
            all.add(new ArrayList<>(begun));
            return;
        }
        for (int i = 0; i < world.people.size(); i++) {
            if (!begun.contains(i)) {
                begun.add(i);
                orders(begun, all);
                begun.remove(begun.size() - 1);
            }
        }
    }

    private int goldBy(List<Integer> goers, int l) {
        World w = world.copy();
        for (int d = 0; d < 6; d++) {
            w.day(goers);
        }
        return w.ladders.get(l).gold;
    }

    private int[] goldOfBoth(int one, int p, int other, int q) {
        World w = world.copy();
        w.ladders.get(one).place = p;
        w.ladders.get(other).place = q;
        World then = w.in(6);
        return new int[] {then.ladders.get(one).gold, then.ladders.get(other).gold};
    }

    int rests(int one, int other, int what) {
        if (noLadder(one) || noLadder(other)) {
            return UNKNOWN;
        }
        if (one == other || what < 0 || what > 1) {
            return OUTSIDE;
        }
        List<Integer> free = new ArrayList<>();
        for (int place = 0; place <= 9; place++) {
            if (world.ladderAt(place) == NONE) {
                free.add(place);
            }
        }
        List<Integer> ones = new ArrayList<>(free);
        ones.add(world.ladders.get(one).place);
        List<Integer> others = new ArrayList<>(free);
        others.add(world.ladders.get(other).place);
        List<Integer> resting = new ArrayList<>();
        for (int p : ones) {
            for (int q : others) {
                if (p != q && restsAt(one, other, p, q, ones, others)) {
                    resting.add(10 * p + q);
                }
            }
        }
        resting.sort(null);
        return what == 0 ? resting.size() : resting.isEmpty() ? NONE : resting.get(0);
    }

    private boolean restsAt(int one, int other, int p, int q, List<Integer> ones, List<Integer> others) {
        int[] have = goldOfBoth(one, p, other, q);
        for (int p2 : ones) {
            if (p2 != q && goldOfBoth(one, p2, other, q)[0] > have[0]) {
                return false;
            }
        }
        for (int q2 : others) {
            if (q2 != p && goldOfBoth(one, p, other, q2)[1] > have[1]) {
                return false;
            }
        }
        return true;
    }

    int stays(int l, int m, int x, boolean upper) {
        if (noLadder(l)) {
            return UNKNOWN;
        }
        if (m < 0 || m > 60 || x < 0 || x > 10) {
            return OUTSIDE;
        }
        long below = Math.round(Math.pow(10, world.people.size()));
        return told(chances(l, m, x, 0, new ArrayList<>()), below, upper);
    }

    private long chances(int l, int m, int x, int next, List<Integer> goers) {
        if (next == world.people.size()) {
            World w = world.copy();
            w.day(goers);
            return w.ladders.get(l).gold >= m ? 1 : 0;
        }
        long stays = x * chances(l, m, x, next + 1, goers);
        List<Integer> more = new ArrayList<>(goers);
        more.add(next);
        return stays + (10 - x) * chances(l, m, x, next + 1, more);
    }

    long seed(long v) {
        long was = seed;
        seed = v;
        return was;
    }

    int years(int m) {
        if (m < 1 || m > 30) {
            return OUTSIDE;
        }
        Model other = new Model();
        other.world = world.copy();
        BigInteger x = BigInteger.valueOf(seed);
        int together = 0;
        for (int i = 0; i < m; i++) {
            x = x.multiply(new BigInteger("6364136223846793005")).add(new BigInteger("1442695040888963407"));
            x = x.mod(BigInteger.ONE.shiftLeft(64));
            int left = x.shiftRight(33).mod(BigInteger.valueOf(30)).intValue();
            if (left <= 9) {
                other.move(0, left);
            } else if (left <= 14) {
                other.give(left - 10, 1);
            } else {
                other.day();
            }
            together += other.count(6);
        }
        seed = x.longValue();
        return together;
    }

    // ---- slots

    int keep(int slot) {
        if (slot < 0 || slot > 1) {
            return UNKNOWN;
        }
        slots[slot] = world.copy();
        return world.day;
    }

    int again(int slot) {
        if (slot < 0 || slot > 1) {
            return UNKNOWN;
        }
        if (slots[slot] == null) {
            return STATE;
        }
        world = slots[slot].copy();
        acts.clear();
        return world.day;
    }

    int count(int what) {
        int home = 0;
        for (int i = 0; i < world.people.size(); i++) {
            if (world.people.get(i).where == world.people.get(i).home) {
                home += 1 << i;
            }
        }
        return switch (what) {
            case 0 -> text.length();
            case 1 -> world.ladders.size();
            case 2 -> world.people.size();
            case 3 -> world.day;
            case 4 -> world.people.stream().mapToInt(p -> p.luck).sum();
            case 5 -> world.ladders.stream().mapToInt(l -> l.luck).sum();
            case 6 -> world.gold();
            case 7 -> home;
            case 8 -> acts.size();
            case 9 -> seen.size();
            default -> OUTSIDE;
        };
    }
}
