import java.util.Random;

/** Towns by seeds, every question asked of the class and of the model. */
public final class ModelTest {
    private static final int TOWNS = 2500;
    private static final int[] LEAST = {-128, -32768, Integer.MIN_VALUE};

    private ModelTest() {
    }

    public static void main(String[] args) {
        for (int seed = 0; seed < TOWNS; seed++) {
            askAll(new Random(seed));
        }
        Due.end("ModelTest");
    }

    private static Model town(Random random) {
        Model m = new Model();
        m.open = random.nextInt(24);
        if (random.nextInt(2) == 0) {
            m.open = random.nextInt(12);
        }
        m.fade = random.nextInt(random.nextBoolean() ? 3 : 10);
        m.rate = 1 + random.nextInt(9);
        int facts = random.nextInt(7);
        for (int i = 0; i < facts; i++) {
            m.facts.add(new int[] {someCase(random), random.nextInt(19) - 9, random.nextInt(24),
                random.nextBoolean() ? 10 : random.nextInt(11)});
        }
        int plants = random.nextInt(4);
        for (int i = 0; i < plants; i++) {
            m.plants.add(new int[] {someCase(random), random.nextBoolean() ? 1 : -1,
                1 + random.nextInt(random.nextBoolean() ? 12 : 60), random.nextInt(random.nextBoolean() ? 8 : 100),
                random.nextInt(24)});
        }
        for (int a = 0; a < 4; a++) {
            for (int b = a + 1; b < 4; b++) {
                boolean kin = random.nextInt(3) == 0;
                m.kin[a][b] = kin;
                m.kin[b][a] = kin;
            }
        }
        int people = random.nextInt(9);
        for (int i = 0; i < people; i++) {
            Model.Person p = new Model.Person();
            p.kind = random.nextInt(8);
            p.figure = random.nextInt(10);
            p.kase = someCase(random);
            p.told = random.nextInt(24);
            p.mood = random.nextInt(19) - 9;
            p.coins = random.nextInt(random.nextBoolean() ? 10 : 100);
            m.people.add(p);
        }
        return m;
    }

    private static int someCase(Random random) {
        return random.nextInt(random.nextBoolean() ? 2 : 4);
    }

    private static void askAll(Random random) {
        Model m = town(random);
        // an object is asked less than 512 times, and once more at last: what is asked leaves the town as it is
        askOfDay(told(m), m);
        ThoughtBetterOf x = told(m);
        askOfPeople(x, m, random);
        askSums(x, m);
        x = told(m);
        askOfSets(x, m, random);
        askOfChoices(x, m, random);
        askSums(x, m);
        x = told(m);
        askOfCoins(x, m, random);
        askSums(x, m);
    }

    private static ThoughtBetterOf told(Model m) {
        ThoughtBetterOf x = Towns.of(m.toString());
        for (int f = 0; f < m.facts.size(); f++) {
            x.chance(f, m.facts.get(f)[3]);
        }
        return x;
    }

    private static void askSums(ThoughtBetterOf x, Model m) {
        Model.Day day = m.day();
        for (int what = 0; what < 6; what++) {
            Due.is(m + " sums(" + what + ")", x.sums(what), day.sums(what));
        }
    }

    private static void askOfDay(ThoughtBetterOf x, Model m) {
        askSums(x, m);
        Model.Day day = m.day();
        for (int hour = 0; hour < 24; hour++) {
            Due.is(m + " market(" + hour + ")", x.market(hour), day.market[hour]);
        }
        for (int p = 0; p < m.people.size(); p++) {
            for (int what = 0; what < 9; what++) {
                Due.is(m + " fate(" + p + ", " + what + ")", x.fate(p, what), day.fate(p, what));
            }
            Due.is(m + " sum(" + p + ")", x.sum(p), day.first[p]);
            Due.is(m + " chain(" + p + ")", x.chain(p), day.chain(p));
        }
        Due.is(m + " longest()", x.longest(), m.longest());
        Due.is(m + " bestRate()", x.bestRate(), m.bestRate());
        Due.is(m + " bestOpen()", x.bestOpen(), m.bestOpen());
        Due.is(m + " without()", x.without(), m.without());
        Due.is(m + " again(0)", x.again(0), m.again(0));
        Due.is(m + " again(1)", x.again(1), m.again(1));
        Due.is(m + " mean(0)", x.mean(0), m.likely(-1, 0));
        Due.is(m + " mean(1)", x.mean(1), m.likely(-1, 1));
        Due.is(m + " count(6)", x.count(6), m.allCoins());
        Due.is(m + " count(7)", x.count(7), m.pairsOfKin());
        for (int fade = 0; fade < 10; fade++) {
            Due.is(m + " law(" + fade + ")", x.law(fade), m.law(fade));
        }
    }

    private static void askOfPeople(ThoughtBetterOf x, Model m, Random random) {
        for (int p = 0; p < m.people.size(); p++) {
            Model.Person one = m.people.get(p);
            Due.is(m + " turners(" + p + ")", x.turners(p), m.turners(p));
            Due.is(m + " yes(" + p + ")", x.yes(p), m.yes(p));
            Due.is(m + " purse(" + p + ")", x.purse(p), m.purse(p));
            Due.is(m + " person(" + p + ", 4)", x.person(p, 4), one.due());
            for (int part = 0; part < 2; part++) {
                Due.is(m + " moods(" + p + ", " + part + ")", x.moods(p, part), m.moods(p, part));
                Due.is(m + " likely(" + p + ", " + part + ")", x.likely(p, part), m.likely(p, part));
            }
            for (int i = 0; i < 3; i++) {
                int v = random.nextInt(30);
                Due.is(m + " price(" + p + ", " + v + ")", x.price(p, v), one.price(v, m.rate));
                Due.is(m + " strength(" + p + ", " + (v - 15) + ")", x.strength(p, v - 15), one.strength(v - 15));
                Due.is(m + " weighs(" + p + ", " + one.mood + ", " + (v - 15) + ")",
                        x.weighs(p, one.mood, v - 15), one.sum(v - 15));
            }
        }
    }

    private static void askOfSets(ThoughtBetterOf x, Model m, Random random) {
        int n = m.people.size();
        for (int i = 0; i < 2; i++) {
            int set = random.nextInt(1 << n) & (i == 0 ? random.nextInt(1 << n) : -1);
            Due.is(m + " turn(" + set + ", 0)", x.turn(set, 0), m.turn(set, 0));
            Due.is(m + " turn(" + set + ", 1)", x.turn(set, 1), m.turn(set, 1));
            Due.is(m + " guard(" + set + ")", x.guard(set), m.guard(set));
        }
        int days = 1 + random.nextInt(20);
        int seed = random.nextInt();
        Due.is(m + " seeds(" + days + ", " + seed + ", 0)", x.seeds(days, seed, 0), m.seeds(days, seed, 0));
        Due.is(m + " seeds(" + days + ", " + seed + ", 1)", x.seeds(days, seed, 1), m.seeds(days, seed, 1));
        if (n > 1) {
            int a = random.nextInt(n);
            int b = (a + 1 + random.nextInt(n - 1)) % n;
            Due.is(m + " two(" + a + ", " + b + ")", x.two(a, b), m.two(a, b));
        }
    }

    private static void askOfChoices(ThoughtBetterOf x, Model m, Random random) {
        int n = m.people.size();
        int sort = random.nextInt(3);
        Model law = m.copy();
        law.fade = random.nextInt(10);
        law.open = random.nextInt(24);
        Model.Day day = law.day();
        int[] told = new int[random.nextInt(n + 1)];
        for (int p = 0; p < told.length; p++) {
            int by = random.nextInt(10);
            told[p] = by == 0 ? random.nextInt(4) : by < 3 ? LEAST[sort] : day.told(p);
        }
        Towns.row(x, 1, sort, told);
        Integer[] choices = Model.skipping(told, LEAST[sort]);
        Due.is(m + " explained(1, 0)", x.explained(1, 0), m.explained(choices, 0));
        Due.is(m + " explained(1, 1)", x.explained(1, 1), m.explained(choices, 1));
        Due.is(m + " forged(1)", x.forged(1), m.forged(choices));
    }

    private static void askOfCoins(ThoughtBetterOf x, Model m, Random random) {
        int sort = random.nextInt(3);
        Model.Day now = m.day();
        for (int p = 0; p < m.people.size(); p++) {
            int[] coins = new int[random.nextInt(30)];
            for (int h = 0; h < coins.length; h++) {
                int by = random.nextInt(25);
                coins[h] = by == 0 ? random.nextInt(100) : by < 3 || h > 23 && by < 20 ? LEAST[sort]
                        : now.coinsByHour[Math.min(h, 23)][p];
            }
            Towns.row(x, 2, sort, coins);
            int[] kept = coins.clone();
            for (int h = 0; h < kept.length; h++) {
                kept[h] = sort == 0 ? (byte) coins[h] : coins[h];
            }
            Due.is(m + " judge(" + p + ", 2)", x.judge(p, 2), m.judge(p, Model.skipping(kept, LEAST[sort])));
        }
    }
}
