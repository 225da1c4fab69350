import java.math.BigInteger;
import java.util.ArrayList;
import java.util.Arrays;
import java.util.LinkedHashSet;
import java.util.List;
import java.util.Set;

/**
 * The document's town once more, written straight along its words, hour by hour, without a care for speed or room:
 * what the class answers is held against it. It shares no code and no way of holding things with the class.
 */
final class Model {
    static final class Person implements Cloneable {
        int kind;
        int figure;
        int kase;
        int told;
        int mood;
        int coins;

        boolean isUnder(int wanted) {
            int[] under = {-1, 0, 0, 2, 0, 4, 0, 6};
            for (int k = kind; k >= 0; k = under[k]) {
                if (k == wanted) {
                    return true;
                }
            }
            return false;
        }

        int due() {
            return kind == 1 && told > 12 ? 12 : told;
        }

        int sum(int facts) {
            switch (kind) {
                case 4: return mood + facts + facts;
                case 5: return facts + facts;
                case 7: return mood + mood + facts;
                default: return mood + facts;
            }
        }

        int strength(int sum) {
            int plain = Math.abs(sum);
            return kind == 2 ? plain + figure : kind == 3 ? (plain + figure) * 2 : plain;
        }

        int price(int left, int rate) {
            int plain = (int) Math.ceil(left * rate / 4.0);
            if (!isUnder(6)) {
                return plain;
            }
            int child = plain / 2;
            return kind == 6 ? child : child == 0 ? 0 : child - 1;
        }

        int fade(int fade) {
            if (isUnder(2)) {
                return fade == 0 ? 0 : fade - 1;
            }
            return kind == 7 ? fade + fade : fade;
        }

        boolean buys(int left, int own) {
            if (kind == 3) {
                return false;
            }
            return isUnder(6) ? left >= own : left > own;
        }

        @Override
        public Person clone() {
            try {
                return (Person) super.clone();
            } catch (CloneNotSupportedException never) {
                throw new IllegalStateException(never);
            }
        }
    }

    /** A fact: case, weight, hour, chance. A plant: case, side, strength, price, hour. */
    final List<Person> people = new ArrayList<>();
    final List<int[]> facts = new ArrayList<>();
    final List<int[]> plants = new ArrayList<>();
    final boolean[][] kin = new boolean[4][4];
    int open = 15;
    int fade = 1;
    int rate = 4;
    boolean marketClosed;

    Model copy() {
        Model other = new Model();
        for (Person p : people) {
            other.people.add(p.clone());
        }
        for (int[] f : facts) {
            other.facts.add(f.clone());
        }
        for (int[] t : plants) {
            other.plants.add(t.clone());
        }
        for (int a = 0; a < 4; a++) {
            other.kin[a] = kin[a].clone();
        }
        other.open = open;
        other.fade = fade;
        other.rate = rate;
        return other;
    }

    boolean areKin(int a, int b) {
        return a == b || kin[a][b];
    }

    static final class Thought {
        int owner;
        int kase;
        int side;
        int strength;
        int price;
        int from;
        int fades;
        int buyer = -4;

        int left(int hour) {
            int left = strength;
            for (int h = from; h < hour; h++) {
                left -= fades;
            }
            return Math.max(left, 0);
        }
    }

    /** One day's outcome. */
    final class Day {
        final int n = people.size();
        final Integer[] choice = new Integer[n];
        final int[] first = new int[n];
        final int[] bought = new int[n];
        final int[] paid = new int[n];
        final int[] coins = new int[n];
        final int[][] coinsByHour = new int[24][];
        final int[] market = new int[24];
        final Thought[] second = new Thought[n];
        final List<Thought> sale = new ArrayList<>();

        Day() {
            for (int p = 0; p < n; p++) {
                coins[p] = people.get(p).coins;
                bought[p] = -4;
            }
            for (int hour = 0; hour < 24; hour++) {
                comeForSale(hour);
                for (int p = 0; p < n; p++) {
                    if (people.get(p).due() == hour) {
                        choose(p, hour);
                    }
                }
                coinsByHour[hour] = coins.clone();
                for (Thought t : sale) {
                    if (t.buyer < 0 && t.left(hour) > 0) {
                        market[hour] |= 1 << t.owner;
                    }
                }
            }
        }

        private void comeForSale(int hour) {
            for (int i = 0; i < plants.size(); i++) {
                int[] plant = plants.get(i);
                if (plant[4] == hour) {
                    Thought t = new Thought();
                    t.owner = 8 + i;
                    t.kase = plant[0];
                    t.side = plant[1];
                    t.strength = plant[2];
                    t.price = plant[3];
                    t.from = hour;
                    t.fades = fade;
                    sale.add(t);
                }
            }
            for (int p = 0; p < n; p++) {
                Person one = people.get(p);
                if (choice[p] == null || hour != Math.max(open, one.due() + 1)) {
                    continue;
                }
                int sum = one.sum(known(one.kase, hour));
                int side = Integer.signum(sum);
                if (side != 0 && side != choice[p]) {
                    Thought t = new Thought();
                    t.owner = p;
                    t.kase = one.kase;
                    t.side = side;
                    t.strength = one.strength(sum);
                    t.from = hour;
                    t.fades = one.fade(fade);
                    sale.add(t);
                    second[p] = t;
                }
            }
        }

        private int known(int kase, int hour) {
            int sum = 0;
            for (int[] f : facts) {
                if (f[0] == kase && f[2] <= hour) {
                    sum += f[1];
                }
            }
            return sum;
        }

        private int priceOf(Thought t, int hour) {
            return t.owner >= 8 ? t.price : people.get(t.owner).price(t.left(hour), rate);
        }

        private void choose(int p, int hour) {
            Person one = people.get(p);
            first[p] = one.sum(known(one.kase, hour));
            int own = one.strength(first[p]);
            List<Thought> able = new ArrayList<>();
            for (Thought t : sale) {
                if (t.buyer < 0 && areKin(t.kase, one.kase) && t.left(hour) > 0 && one.buys(t.left(hour), own)
                        && priceOf(t, hour) <= coins[p]) {
                    able.add(t);
                }
            }
            if (marketClosed || able.isEmpty()) {
                choice[p] = Integer.signum(first[p]);
                return;
            }
            able.sort((a, b) -> {
                if (a.left(hour) != b.left(hour)) {
                    return b.left(hour) - a.left(hour);
                }
                if (priceOf(a, hour) != priceOf(b, hour)) {
                    return priceOf(a, hour) - priceOf(b, hour);
                }
                return a.owner - b.owner;
            });
            Thought t = able.get(0);
            t.buyer = p;
            bought[p] = t.owner;
            paid[p] = priceOf(t, hour);
            coins[p] -= paid[p];
            if (t.owner < 8) {
                coins[t.owner] += paid[p];
            }
            choice[p] = t.side;
        }

        int told(int p) {
            return choice[p] == -1 ? 2 : choice[p];
        }

        int fate(int p, int what) {
            Thought t = second[p];
            switch (what) {
                case 0: return told(p);
                case 1: return people.get(p).strength(first[p]);
                case 2: return bought[p];
                case 3: return bought[p] < 0 ? -4 : paid[p];
                case 4: return coins[p];
                case 5: return t == null ? 0 : 1;
                case 6: return t == null ? -4 : t.from;
                case 7: return t == null ? -4 : t.strength;
                default: return t == null ? -4 : t.buyer;
            }
        }

        int sums(int what) {
            int all = 0;
            for (int p = 0; p < n; p++) {
                switch (what) {
                    case 0: all += choice[p] == 1 ? 1 : 0; break;
                    case 1: all += choice[p] == -1 ? 1 : 0; break;
                    case 2: all += choice[p] == 0 ? 1 : 0; break;
                    case 3: all += bought[p] >= 0 ? 1 : 0; break;
                    case 4: all += paid[p]; break;
                    default: all += second[p] != null ? 1 : 0; break;
                }
            }
            return all;
        }

        int chain(int p) {
            return bought[p] < 0 ? 0 : bought[p] >= 8 ? 1 : 1 + chain(bought[p]);
        }

        boolean sayYes(int set) {
            for (int p = 0; p < n; p++) {
                if ((set >> p & 1) != 0 && choice[p] != 1) {
                    return false;
                }
            }
            return true;
        }
    }

    Day day() {
        return new Day();
    }

    int longest() {
        int most = 0;
        Day day = day();
        for (int p = 0; p < people.size(); p++) {
            most = Math.max(most, day.chain(p));
        }
        return most;
    }

    int turners(int p) {
        int bits = 0;
        for (int f = 0; f < facts.size(); f++) {
            Model other = copy();
            other.facts.remove(f);
            if (!other.day().choice[p].equals(day().choice[p])) {
                bits += 1 << f;
            }
        }
        return bits;
    }

    int yes(int p) {
        int bits = 0;
        for (int h = 0; h < 24; h++) {
            Model other = copy();
            other.people.get(p).told = h;
            bits += other.day().choice[p] == 1 ? 1 << h : 0;
        }
        return bits;
    }

    int moods(int p, int what) {
        List<Integer> with = new ArrayList<>();
        for (int m = -9; m <= 9; m++) {
            Model other = copy();
            other.people.get(p).mood = m;
            if (other.day().choice[p] == 1) {
                with.add(m);
            }
        }
        return what == 0 ? with.size() : with.isEmpty() ? -4 : with.get(0) + 9;
    }

    /** Odds that one (or the mean of how many, below 0) says yes, as a fraction in least terms. */
    long likely(int p, int part) {
        BigInteger above = BigInteger.ZERO;
        BigInteger below = BigInteger.TEN.pow(facts.size());
        for (int bits = 0; bits < 1 << facts.size(); bits++) {
            Model other = copy();
            other.facts.clear();
            BigInteger odds = BigInteger.ONE;
            for (int f = 0; f < facts.size(); f++) {
                boolean there = (bits >> f & 1) != 0;
                int chance = facts.get(f)[3];
                odds = odds.multiply(BigInteger.valueOf(there ? chance : 10 - chance));
                if (there) {
                    other.facts.add(facts.get(f));
                }
            }
            Day day = other.day();
            int yes = p < 0 ? day.sums(0) : day.choice[p] == 1 ? 1 : 0;
            above = above.add(odds.multiply(BigInteger.valueOf(yes)));
        }
        BigInteger common = above.gcd(below);
        return (part == 0 ? above : below).divide(common).longValueExact();
    }

    int turn(int set, int what) {
        if (day().sayYes(set)) {
            return what == 0 ? 0 : -4;
        }
        if (plants.size() == 3) {
            return -4;
        }
        for (int strength = 1; strength <= 60; strength++) {
            for (int kase = 0; kase < 4; kase++) {
                Model other = copy();
                other.plants.add(new int[] {kase, 1, strength, 0, 0});
                if (other.day().sayYes(set)) {
                    return what == 0 ? strength : kase;
                }
            }
        }
        return -4;
    }

    int guard(int set) {
        for (int f = 0; f < 10; f++) {
            Model planted = copy();
            planted.fade = f;
            Model plain = planted.copy();
            plain.plants.clear();
            boolean same = true;
            for (int p = 0; p < people.size(); p++) {
                if ((set >> p & 1) != 0) {
                    same &= planted.day().choice[p].equals(plain.day().choice[p]);
                }
            }
            if (same) {
                return f;
            }
        }
        return -4;
    }

    private int others(Model other) {
        int many = 0;
        for (int p = 0; p < people.size(); p++) {
            many += day().choice[p].equals(other.day().choice[p]) ? 0 : 1;
        }
        return many;
    }

    int law(int newFade) {
        Model other = copy();
        other.fade = newFade;
        return others(other);
    }

    int without() {
        Model other = copy();
        other.marketClosed = true;
        return others(other);
    }

    int bestRate() {
        int best = 1;
        int most = -1;
        for (int r = 1; r < 10; r++) {
            Model other = copy();
            other.rate = r;
            if (other.day().sums(4) > most) {
                most = other.day().sums(4);
                best = r;
            }
        }
        return best;
    }

    int bestOpen() {
        int best = 0;
        int fewest = 99;
        for (int o = 0; o < 24; o++) {
            Model other = copy();
            other.open = o;
            if (other.day().sums(5) < fewest) {
                fewest = other.day().sums(5);
                best = o;
            }
        }
        return best;
    }

    int purse(int p) {
        Model rich = copy();
        rich.people.get(p).coins = 99;
        for (int c = 0; ; c++) {
            Model other = copy();
            other.people.get(p).coins = c;
            if (other.day().choice[p].equals(rich.day().choice[p])) {
                return c;
            }
        }
    }

    private int coinsByWait(int who, int a, int waitA, int b, int waitB) {
        Model other = copy();
        other.people.get(a).told = Math.min(23, people.get(a).told + waitA);
        other.people.get(b).told = Math.min(23, people.get(b).told + waitB);
        return other.day().coins[who];
    }

    int two(int a, int b) {
        for (int i = 0; i < 3; i++) {
            for (int j = 0; j < 3; j++) {
                boolean best = true;
                for (int k = 0; k < 3; k++) {
                    best &= coinsByWait(a, a, k, b, j) <= coinsByWait(a, a, i, b, j);
                    best &= coinsByWait(b, a, i, b, k) <= coinsByWait(b, a, i, b, j);
                }
                if (best) {
                    return 10 * i + j;
                }
            }
        }
        return -4;
    }

    int again(int what) {
        Set<List<Integer>> seen = new LinkedHashSet<>();
        Model now = copy();
        for (int dayNumber = 0; dayNumber <= 40; dayNumber++) {
            List<Integer> moods = new ArrayList<>();
            for (Person p : now.people) {
                moods.add(p.mood);
            }
            if (!seen.add(moods)) {
                return what == 0 ? dayNumber : new ArrayList<>(seen).indexOf(moods);
            }
            Day day = now.day();
            for (int p = 0; p < people.size(); p++) {
                if (day.second[p] != null) {
                    Person one = now.people.get(p);
                    one.mood = Math.min(9, Math.max(-9, one.mood + day.second[p].side));
                }
            }
        }
        return -4;
    }

    /** Told choices; null: nothing is told there. */
    private boolean fits(Integer[] told, int upTo, int f, int o) {
        Model other = copy();
        other.fade = f;
        other.open = o;
        Day day = other.day();
        for (int p = 0; p < upTo; p++) {
            if (told[p] != null && told[p] != day.told(p)) {
                return false;
            }
        }
        return true;
    }

    int explained(Integer[] told, int what) {
        int many = 0;
        int least = -4;
        for (int f = 0; f < 10; f++) {
            for (int o = 0; o < 24; o++) {
                if (fits(told, told.length, f, o)) {
                    many++;
                    least = least < 0 ? 100 * f + o : least;
                }
            }
        }
        return what == 0 ? many : least;
    }

    int forged(Integer[] told) {
        for (int place = 0; place < told.length; place++) {
            boolean any = false;
            for (int law = 0; law < 240 && !any; law++) {
                any = fits(told, place + 1, law / 24, law % 24);
            }
            if (!any) {
                return place;
            }
        }
        return -4;
    }

    int judge(int p, Integer[] told) {
        Day day = day();
        for (int h = 0; h < told.length; h++) {
            if (told[h] != null && (h > 23 || told[h] != day.coinsByHour[h][p])) {
                return h;
            }
        }
        return -4;
    }

    int seeds(int n, int z, int what) {
        long seed = z;
        int yes = 0;
        int sold = 0;
        for (int i = 0; i < n; i++) {
            Model other = copy();
            for (Person p : other.people) {
                seed = (int) (seed * 1103515245L + 12345L);
                long drawn = (seed & 0x7fffffffL) >> 16;
                p.mood = (int) (drawn % 19) - 9;
            }
            Day day = other.day();
            yes += day.sums(0);
            sold += day.sums(3);
        }
        return what == 0 ? yes : sold;
    }

    int pairsOfKin() {
        int pairs = 0;
        for (boolean[] row : kin) {
            for (boolean one : row) {
                pairs += one ? 1 : 0;
            }
        }
        return pairs / 2;
    }

    int allCoins() {
        return people.stream().mapToInt(p -> p.coins).sum();
    }

    @Override
    public String toString() {
        StringBuilder text = new StringBuilder();
        text.append(String.format("o%02d;d%d;r%d;", open, fade, rate));
        for (int[] f : facts) {
            text.append(String.format("f%d%s%d%02d;", f[0], f[1] < 0 ? "-" : "+", Math.abs(f[1]), f[2]));
        }
        for (int[] t : plants) {
            text.append(String.format("t%d%s%02d%02d%02d;", t[0], t[1] < 0 ? "-" : "+", t[2], t[3], t[4]));
        }
        for (int a = 0; a < 4; a++) {
            for (int b = a + 1; b < 4; b++) {
                if (kin[a][b]) {
                    text.append("k").append(a).append(b).append(";");
                }
            }
        }
        for (Person p : people) {
            text.append(String.format("p%d%d%d%02d%s%d%02d;", p.kind, p.figure, p.kase, p.told,
                    p.mood < 0 ? "-" : "+", Math.abs(p.mood), p.coins));
        }
        return text.toString();
    }

    static Integer[] skipping(int[] values, int least) {
        return Arrays.stream(values).mapToObj(v -> v == least ? null : (Integer) v).toArray(Integer[]::new);
    }
}
