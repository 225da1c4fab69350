/** A town in which second thoughts are bought and sold: ../shared/DOC.md tells what each call answers. */
public final class ThoughtBetterOf {
    private static final int MOST_PEOPLE = 8;
    private static final int MOST_FACTS = 6;
    private static final int MOST_PLANTS = 3;
    private static final int CASES = 4;
    /** Thoughts 0 .. 7 are those of PEOPLE, by their numbers; those behind them are PLANTS'. */
    private static final int THOUGHTS = MOST_PEOPLE + MOST_PLANTS;
    private static final int LAST_HOUR = 23;
    private static final int MOST_COINS = 99;
    private static final int MOST_MOOD = 9;
    private static final int MOST_WEIGHT = 9;
    private static final int LAST_KIND = 7;
    private static final int MOST_FIGURE = 9;
    private static final int MOST_FADE = 9;
    private static final int MOST_RATE = 9;
    private static final int MOST_CHANCE = 10;
    private static final int MOST_STRENGTH = 60;
    /** What FACTS may weigh, and a SUM or what is left of a thought may be, when one is asked about it. */
    private static final int MOST_WEIGHED = 99;
    private static final int MOST_ASKED = 999;
    private static final int ALL_FACTS = -1;

    private static final int OPEN = 0;
    private static final int FADE = 1;
    private static final int RATE = 2;

    private static final int SHELVES = 8;
    private static final int LONGEST_ROW = 100;
    private static final int HOLDS_NOTHING = 0;
    private static final int HOLDS_ONE = 1;
    private static final int HOLDS_ROW = 2;
    private static final int BYTES = 0;
    private static final int SHORTS = 1;
    private static final int INTS = 2;

    private static final int MOST_DAYS_AGAIN = 40;
    private static final int MOST_DAYS_BY_SEED = 20;
    private static final int WITHOUT_SIGN = 0x7fffffff;
    private static final int WAITS = 3;

    private static final int NO_SUCH = -1;
    private static final int NO_ROOM = -2;
    private static final int NOT_SO = -3;
    private static final int NONE = -4;
    private static final int NOTHING_HELD = -11;
    private static final int OTHER_KIND = -12;
    private static final int NO_PLACE = -13;
    private static final int BELOW_ZERO = -14;
    private static final int NO_FAILURE = -15;
    /** The -1 of calls whose plain answers may be below 0, too, and of longs. */
    private static final int NO_SUCH_NUMBER = -1000000001;
    private static final int TEXT_FAULT = -1000;
    private static final int STATEMENT_FAULT = -2000;

    private final Town town;
    /** The town as it would be with something else in it: made anew from the town for each question. */
    private final Town trial;
    private final Town pictured;
    private boolean hasImage;
    private final Day day;
    private final int[] holds;
    private final Plain[] kept;
    private final Row[] rows;
    /** With which MOODS each of the days of again() began. */
    private final int[][] begun;
    /** The COINS at the end of two that WAIT, each by its own WAIT and the other's. */
    private final int[][] coinsOfFirst;
    private final int[][] coinsOfOther;

    public ThoughtBetterOf() {
        town = new Town();
        trial = new Town();
        pictured = new Town();
        hasImage = false;
        day = new Day(town);
        holds = new int[SHELVES];
        kept = new Plain[SHELVES];
        rows = new Row[SHELVES];
        Plain nobody = new Plain(0, 0);
        for (int d = 0; d < SHELVES; d++) {
            kept[d] = nobody;
            rows[d] = new Row();
        }
        begun = new int[MOST_DAYS_AGAIN + 1][MOST_PEOPLE];
        coinsOfFirst = new int[WAITS][WAITS];
        coinsOfOther = new int[WAITS][WAITS];
    }

    // ---- the town as told

    public int town(int d) {
        int refusal = shelfRefusal(d, HOLDS_ROW);
        if (refusal != 0) {
            return refusal;
        }
        if (rows[d].sort != BYTES) {
            return OTHER_KIND;
        }
        trial.become(town);
        int answer = trial.hear(rows[d]);
        if (answer >= 0) {
            town.become(trial);
        }
        return answer;
    }

    public int person(int p, int what) {
        if (isNobody(p)) {
            return NO_SUCH;
        }
        switch (what) {
            case 0: return town.who[p].kind;
            case 1: return town.who[p].figure;
            case 2: return town.kase[p];
            case 3: return town.hour[p];
            case 4: return town.who[p].dueWhenTold(town.hour[p]);
            case 5: return town.coins[p];
            case 6: return town.mood[p] + MOST_MOOD;
            default: return NO_SUCH;
        }
    }

    public int weighs(int p, int mood, int facts) {
        if (isNobody(p) || isOut(mood, -MOST_MOOD, MOST_MOOD) || isOut(facts, -MOST_WEIGHED, MOST_WEIGHED)) {
            return NO_SUCH_NUMBER;
        }
        return town.who[p].sumOf(mood, facts);
    }

    public int strength(int p, int sum) {
        if (isNobody(p) || isOut(sum, -MOST_ASKED, MOST_ASKED)) {
            return NO_SUCH;
        }
        return town.who[p].strengthOf(sum);
    }

    public int price(int p, int v) {
        if (isNobody(p) || isOut(v, 0, MOST_ASKED)) {
            return NO_SUCH;
        }
        return town.who[p].priceOf(v, town.rule[RATE]);
    }

    public int comes(int d, int kase, int hour, int mood, int coins) {
        if (isNoShelf(d) || Town.isNoOne(kase, hour, mood, coins)) {
            return NO_SUCH;
        }
        int refusal = shelfRefusal(d, HOLDS_ONE);
        return refusal != 0 ? refusal : town.addOne(kept[d], kase, hour, mood, coins);
    }

    public int leaves(int p) {
        return isNobody(p) ? NO_SUCH : town.dropOne(p);
    }

    public int mood(int p, int v) {
        if (isNobody(p) || isOut(v, -MOST_MOOD, MOST_MOOD)) {
            return NO_SUCH;
        }
        int before = town.mood[p] + MOST_MOOD;
        town.mood[p] = v;
        return before;
    }

    public int coins(int p, int v) {
        if (isNobody(p) || isOut(v, 0, MOST_COINS)) {
            return NO_SUCH;
        }
        int before = town.coins[p];
        town.coins[p] = v;
        return before;
    }

    public int fact(int kase, int weight, int hour) {
        return town.addFact(kase, weight, hour);
    }

    public int about(int fact, int what) {
        if (isNoFact(fact)) {
            return NO_SUCH;
        }
        switch (what) {
            case 0: return town.factCase[fact];
            case 1: return town.factWeight[fact] + MOST_WEIGHT;
            case 2: return town.factHour[fact];
            case 3: return town.factChance[fact];
            default: return NO_SUCH;
        }
    }

    public int chance(int fact, int v) {
        if (isNoFact(fact) || isOut(v, 0, MOST_CHANCE)) {
            return NO_SUCH;
        }
        int before = town.factChance[fact];
        town.factChance[fact] = v;
        return before;
    }

    public int kin(int a, int b) {
        return town.turnKin(a, b);
    }

    public int set(int what, int v) {
        return town.changeRule(what, v);
    }

    // ---- a day

    public int fate(int p, int what) {
        if (isNobody(p) || isOut(what, 0, 8)) {
            return NO_SUCH;
        }
        day.run(town, ALL_FACTS);
        return day.fateOf(p, what);
    }

    public int sum(int p) {
        if (isNobody(p)) {
            return NO_SUCH_NUMBER;
        }
        day.run(town, ALL_FACTS);
        return day.firstSum[p];
    }

    public int sums(int what) {
        if (isOut(what, 0, 5)) {
            return NO_SUCH;
        }
        day.run(town, ALL_FACTS);
        return day.countOf(what);
    }

    public int market(int hour) {
        if (isOut(hour, 0, LAST_HOUR)) {
            return NO_SUCH;
        }
        day.run(town, ALL_FACTS);
        return day.marketAt(hour);
    }

    public int chain(int p) {
        if (isNobody(p)) {
            return NO_SUCH;
        }
        day.run(town, ALL_FACTS);
        return day.chainOf(p);
    }

    public int longest() {
        day.run(town, ALL_FACTS);
        int most = 0;
        for (int p = 0; p < town.people; p++) {
            most = Math.max(most, day.chainOf(p));
        }
        return most;
    }

    // ---- what turns one

    public int turners(int p) {
        if (isNobody(p)) {
            return NO_SUCH;
        }
        day.run(town, ALL_FACTS);
        int choice = day.choice[p];
        int bits = 0;
        for (int fact = 0; fact < town.facts; fact++) {
            day.run(town, ALL_FACTS ^ 1 << fact);
            if (day.choice[p] != choice) {
                bits |= 1 << fact;
            }
        }
        return bits;
    }

    public int yes(int p) {
        if (isNobody(p)) {
            return NO_SUCH;
        }
        trial.become(town);
        int bits = 0;
        for (int hour = 0; hour <= LAST_HOUR; hour++) {
            trial.hour[p] = hour;
            day.run(trial, ALL_FACTS);
            if (day.choice[p] > 0) {
                bits |= 1 << hour;
            }
        }
        return bits;
    }

    public int moods(int p, int what) {
        if (isNobody(p) || isOut(what, 0, 1)) {
            return NO_SUCH;
        }
        trial.become(town);
        int many = 0;
        int least = NONE;
        for (int mood = MOST_MOOD; mood >= -MOST_MOOD; mood--) {
            trial.mood[p] = mood;
            day.run(trial, ALL_FACTS);
            if (day.choice[p] > 0) {
                many++;
                least = mood + MOST_MOOD;
            }
        }
        return what == 0 ? many : least;
    }

    public long likely(int p, int part) {
        if (isNobody(p) || isOut(part, 0, 1)) {
            return NO_SUCH_NUMBER;
        }
        return expectedYes(1 << p, part);
    }

    public long mean(int part) {
        if (isOut(part, 0, 1)) {
            return NO_SUCH_NUMBER;
        }
        return expectedYes(everybody(), part);
    }

    public int turn(int set, int what) {
        if (isOut(set, 0, everybody()) || isOut(what, 0, 1)) {
            return NO_SUCH;
        }
        day.run(town, ALL_FACTS);
        if ((day.sayYes() & set) == set) {
            return what == 0 ? 0 : NONE;
        }
        trial.become(town);
        int plant = trial.addPlant(0, 1, 1, 0, 0);
        if (plant < 0) {
            return NONE;
        }
        for (int strength = 1; strength <= MOST_STRENGTH; strength++) {
            trial.plantStrength[plant] = strength;
            for (int kase = 0; kase < CASES; kase++) {
                trial.plantCase[plant] = kase;
                day.run(trial, ALL_FACTS);
                if ((day.sayYes() & set) == set) {
                    return what == 0 ? strength : kase;
                }
            }
        }
        return NONE;
    }

    public int guard(int set) {
        if (isOut(set, 0, everybody())) {
            return NO_SUCH;
        }
        trial.become(town);
        for (int fade = 0; fade <= MOST_FADE; fade++) {
            trial.rule[FADE] = fade;
            trial.plants = town.plants;
            day.run(trial, ALL_FACTS);
            int planted = day.choices();
            trial.plants = 0;
            day.run(trial, ALL_FACTS);
            if ((whoDiffers(planted, day.choices()) & set) == 0) {
                return fade;
            }
        }
        return NONE;
    }

    public int law(int fade) {
        if (isOut(fade, 0, MOST_FADE)) {
            return NO_SUCH;
        }
        day.run(town, ALL_FACTS);
        int now = day.choices();
        trial.become(town);
        trial.rule[FADE] = fade;
        day.run(trial, ALL_FACTS);
        return Integer.bitCount(whoDiffers(now, day.choices()));
    }

    public int bestRate() {
        trial.become(town);
        int best = 1;
        int most = -1;
        for (int rate = 1; rate <= MOST_RATE; rate++) {
            trial.rule[RATE] = rate;
            day.run(trial, ALL_FACTS);
            int paid = day.allPaid();
            if (paid > most) {
                most = paid;
                best = rate;
            }
        }
        return best;
    }

    public int bestOpen() {
        trial.become(town);
        int best = 0;
        int fewest = MOST_PEOPLE + 1;
        for (int open = 0; open <= LAST_HOUR; open++) {
            trial.rule[OPEN] = open;
            day.run(trial, ALL_FACTS);
            int regret = day.howManyRegret();
            if (regret < fewest) {
                fewest = regret;
                best = open;
            }
        }
        return best;
    }

    public int purse(int p) {
        if (isNobody(p)) {
            return NO_SUCH;
        }
        trial.become(town);
        trial.coins[p] = MOST_COINS;
        day.run(trial, ALL_FACTS);
        int choice = day.choice[p];
        for (int coins = 0; coins < MOST_COINS; coins++) {
            trial.coins[p] = coins;
            day.run(trial, ALL_FACTS);
            if (day.choice[p] == choice) {
                return coins;
            }
        }
        return MOST_COINS;
    }

    public int two(int a, int b) {
        if (isNobody(a) || isNobody(b) || a == b) {
            return NO_SUCH;
        }
        trial.become(town);
        for (int first = 0; first < WAITS; first++) {
            for (int other = 0; other < WAITS; other++) {
                trial.hour[a] = Math.min(LAST_HOUR, town.hour[a] + first);
                trial.hour[b] = Math.min(LAST_HOUR, town.hour[b] + other);
                day.run(trial, ALL_FACTS);
                coinsOfFirst[first][other] = day.coinsAt(a, LAST_HOUR);
                coinsOfOther[other][first] = day.coinsAt(b, LAST_HOUR);
            }
        }
        for (int first = 0; first < WAITS; first++) {
            for (int other = 0; other < WAITS; other++) {
                if (isBestWait(coinsOfFirst, first, other) && isBestWait(coinsOfOther, other, first)) {
                    return 10 * first + other;
                }
            }
        }
        return NONE;
    }

    public int without() {
        day.run(town, ALL_FACTS);
        int others = 0;
        for (int p = 0; p < town.people; p++) {
            if (day.choice[p] != sideOf(day.firstSum[p])) {
                others++;
            }
        }
        return others;
    }

    public int again(int what) {
        if (isOut(what, 0, 1)) {
            return NO_SUCH;
        }
        trial.become(town);
        for (int now = 0; now <= MOST_DAYS_AGAIN; now++) {
            System.arraycopy(trial.mood, 0, begun[now], 0, trial.people);
            int ahead = dayBegunAlike(now);
            if (ahead >= 0) {
                return what == 0 ? now : ahead;
            }
            day.run(trial, ALL_FACTS);
            for (int p = 0; p < trial.people; p++) {
                int moved = trial.mood[p] + day.side[p];
                trial.mood[p] = Math.max(-MOST_MOOD, Math.min(MOST_MOOD, moved));
            }
        }
        return NONE;
    }

    // ---- days explained

    public int explained(int d, int what) {
        if (isOut(what, 0, 1)) {
            return NO_SUCH;
        }
        int refusal = toldChoicesRefusal(d);
        if (refusal != 0) {
            return refusal;
        }
        trial.become(town);
        int many = 0;
        int least = NONE;
        for (int fade = MOST_FADE; fade >= 0; fade--) {
            for (int open = LAST_HOUR; open >= 0; open--) {
                if (firstMisfit(rows[d], fade, open) == rows[d].size) {
                    many++;
                    least = 100 * fade + open;
                }
            }
        }
        return what == 0 ? many : least;
    }

    public int forged(int d) {
        int refusal = toldChoicesRefusal(d);
        if (refusal != 0) {
            return refusal;
        }
        trial.become(town);
        int furthest = 0;
        for (int fade = 0; fade <= MOST_FADE; fade++) {
            for (int open = 0; open <= LAST_HOUR; open++) {
                furthest = Math.max(furthest, firstMisfit(rows[d], fade, open));
            }
        }
        return furthest == rows[d].size ? NONE : furthest;
    }

    public int judge(int p, int d) {
        if (isNobody(p)) {
            return NO_SUCH;
        }
        int refusal = shelfRefusal(d, HOLDS_ROW);
        if (refusal != 0) {
            return refusal;
        }
        day.run(town, ALL_FACTS);
        Row told = rows[d];
        for (int hour = 0; hour < told.size; hour++) {
            if (told.isSkipped(hour)) {
                continue;
            }
            if (hour > LAST_HOUR || told.at(hour) != day.coinsAt(p, hour)) {
                return hour;
            }
        }
        return NONE;
    }

    public int seeds(int n, int z, int what) {
        if (isOut(n, 1, MOST_DAYS_BY_SEED) || isOut(what, 0, 1)) {
            return NO_SUCH;
        }
        trial.become(town);
        int seed = z;
        int yes = 0;
        int sold = 0;
        for (int i = 0; i < n; i++) {
            for (int p = 0; p < trial.people; p++) {
                seed = seed * 1103515245 + 12345;
                trial.mood[p] = (seed & WITHOUT_SIGN) / 65536 % (2 * MOST_MOOD + 1) - MOST_MOOD;
            }
            day.run(trial, ALL_FACTS);
            yes += Integer.bitCount(day.sayYes());
            sold += day.howManySold();
        }
        return what == 0 ? yes : sold;
    }

    // ---- the image, what is told

    public int image() {
        pictured.become(town);
        hasImage = true;
        return town.people;
    }

    public int restore() {
        if (!hasImage) {
            return NOT_SO;
        }
        town.become(pictured);
        return town.people;
    }

    public int count(int what) {
        switch (what) {
            case 0: return town.people;
            case 1: return town.facts;
            case 2: return town.plants;
            case 3: return town.rule[OPEN];
            case 4: return town.rule[FADE];
            case 5: return town.rule[RATE];
            case 6: return town.allCoins();
            case 7: return town.pairsOfKin();
            default: return NO_SUCH;
        }
    }

    // ---- shelves

    public int keep(int d, int what, int k, int figure) {
        if (isNoShelf(d) || isOut(what, 0, 1)) {
            return NO_SUCH;
        }
        if (what == 0) {
            holds[d] = HOLDS_NOTHING;
            return 0;
        }
        if (isOut(k, 0, LAST_KIND) || isOut(figure, 0, MOST_FIGURE)) {
            return NO_SUCH;
        }
        kept[d] = oneOfKind(k, figure);
        holds[d] = HOLDS_ONE;
        return 0;
    }

    public int row(int d, int sort, int n) {
        if (isNoShelf(d) || isOut(sort, BYTES, INTS) || n > LONGEST_ROW) {
            return NO_SUCH;
        }
        if (n < 0) {
            return BELOW_ZERO;
        }
        rows[d].begin(sort, n);
        holds[d] = HOLDS_ROW;
        return 0;
    }

    public int put(int d, int i, int v) {
        int refusal = shelfRefusal(d, HOLDS_ROW);
        if (refusal != 0) {
            return refusal;
        }
        if (!rows[d].hasPlaces(i, 1)) {
            return NO_PLACE;
        }
        rows[d].write(i, v);
        return 0;
    }

    public long element(int d, int i) throws IllegalArgumentException, IllegalStateException {
        if (isNoShelf(d)) {
            throw new IllegalArgumentException("no such shelf");
        }
        if (holds[d] != HOLDS_ROW) {
            throw new IllegalStateException("no row on the shelf");
        }
        if (!rows[d].hasPlaces(i, 1)) {
            throw new IllegalStateException("no such place in the row");
        }
        return rows[d].at(i);
    }

    public int copy(int d, int i, int e, int j, int n) {
        if (isNoShelf(d) || isNoShelf(e)) {
            return NO_SUCH;
        }
        if (holds[d] == HOLDS_NOTHING || holds[e] == HOLDS_NOTHING) {
            return NOTHING_HELD;
        }
        if (holds[d] != HOLDS_ROW || holds[e] != HOLDS_ROW || rows[d].sort != rows[e].sort) {
            return OTHER_KIND;
        }
        if (!rows[d].hasPlaces(i, n) || !rows[e].hasPlaces(j, n)) {
            return NO_PLACE;
        }
        System.arraycopy(rows[d].cells, i, rows[e].cells, j, n);
        return n;
    }

    public int cost(int d) {
        int refusal = shelfRefusal(d, HOLDS_ONE);
        return refusal != 0 ? refusal : kept[d].costOf();
    }

    public int toss(int d) {
        int refusal = shelfRefusal(d, HOLDS_ONE);
        if (refusal != 0) {
            return refusal;
        }
        Plain one = kept[d];
        try {
            one.fail();
        } catch (IllegalStateException plain) {
            return one.figure;
        } catch (IllegalArgumentException firm) {
            return 100 + one.figure;
        } catch (UnsupportedOperationException royal) {
            return 200 + one.costOf();
        }
        return NO_FAILURE;
    }

    // ---- what the calls share

    private static boolean isOut(int v, int least, int most) {
        return v < least || v > most;
    }

    private static int sideOf(int sum) {
        return Integer.compare(sum, 0);
    }

    private boolean isNobody(int p) {
        return p < 0 || p >= town.people;
    }

    private boolean isNoFact(int fact) {
        return fact < 0 || fact >= town.facts;
    }

    private static boolean isNoShelf(int d) {
        return d < 0 || d >= SHELVES;
    }

    /** The bits of all PEOPLE. */
    private int everybody() {
        return (1 << town.people) - 1;
    }

    /** 0 if the SHELF holds what is wanted. */
    private int shelfRefusal(int d, int wanted) {
        if (isNoShelf(d)) {
            return NO_SUCH;
        }
        if (holds[d] == HOLDS_NOTHING) {
            return NOTHING_HELD;
        }
        return holds[d] == wanted ? 0 : OTHER_KIND;
    }

    /** 0 if the SHELF holds a ROW that can tell CHOICES of PEOPLE. */
    private int toldChoicesRefusal(int d) {
        int refusal = shelfRefusal(d, HOLDS_ROW);
        if (refusal != 0) {
            return refusal;
        }
        return rows[d].size > town.people ? NO_PLACE : 0;
    }

    /** The bits of PEOPLE whose CHOICES are not the same in two answers of Day.choices(). */
    private static int whoDiffers(int some, int others) {
        int bits = 0;
        for (int p = 0; p < MOST_PEOPLE; p++) {
            if (((some ^ others) >> 2 * p & 3) != 0) {
                bits |= 1 << p;
            }
        }
        return bits;
    }

    /** How many of a set of PEOPLE choose yes in the mean, as one part of a fraction in least terms. */
    private long expectedYes(int set, int part) {
        long above = 0;
        long below = 1;
        for (int fact = 0; fact < town.facts; fact++) {
            below *= MOST_CHANCE;
        }
        for (int there = 0; there < 1 << town.facts; there++) {
            long odds = oddsOf(there);
            if (odds > 0) {
                day.run(town, there);
                above += odds * Integer.bitCount(day.sayYes() & set);
            }
        }
        long common = commonDivisor(below, above);
        if (common <= 0) {
            return NO_SUCH_NUMBER;
        }
        return (part == 0 ? above : below) / common;
    }

    /** How likely just these FACTS are there, in tenths of tenths for each FACT. */
    private long oddsOf(int there) {
        long odds = 1;
        for (int fact = 0; fact < town.facts; fact++) {
            int chance = town.factChance[fact];
            odds *= (there >> fact & 1) != 0 ? chance : MOST_CHANCE - chance;
        }
        return odds;
    }

    private static long commonDivisor(long a, long b) {
        long some = a;
        long rest = b;
        for (int i = 0; i < 200 && rest != 0; i++) {
            long next = some % rest;
            some = rest;
            rest = next;
        }
        return some;
    }

    /** Whether one has not more COINS by another WAIT alone. */
    private static boolean isBestWait(int[][] coins, int own, int other) {
        for (int instead = 0; instead < WAITS; instead++) {
            if (coins[instead][other] > coins[own][other]) {
                return false;
            }
        }
        return true;
    }

    /** The day ahead that began with the MOODS of a day; below 0: there is none. */
    private int dayBegunAlike(int now) {
        for (int ahead = 0; ahead < now; ahead++) {
            boolean alike = true;
            for (int p = 0; p < trial.people; p++) {
                alike &= begun[ahead][p] == begun[now][p];
            }
            if (alike) {
                return ahead;
            }
        }
        return NONE;
    }

    /** The place of the first told CHOICE that is not so by a FADE and an OPEN; the ROW's size if all are so. */
    private int firstMisfit(Row told, int fade, int open) {
        trial.rule[FADE] = fade;
        trial.rule[OPEN] = open;
        day.run(trial, ALL_FACTS);
        for (int p = 0; p < told.size && p < trial.people; p++) {
            if (!told.isSkipped(p) && told.at(p) != day.toldChoice(p)) {
                return p;
            }
        }
        return told.size;
    }

    private static Plain oneOfKind(int kind, int figure) {
        switch (kind) {
            case 1: return new Bride(kind, figure);
            case 2: return new Firm(kind, figure);
            case 3: return new Sworn(kind, figure);
            case 4: return new General(kind, figure);
            case 5: return new King(kind, figure);
            case 6: return new Child(kind, figure);
            case 7: return new Drunk(kind, figure);
            default: return new Plain(kind, figure);
        }
    }

    /** What one of PEOPLE is by its KIND and FIGURE; it never changes, so that SHELVES and towns may share it. */
    private static class Plain {
        final int kind;
        final int figure;

        Plain(int kind, int figure) {
            this.kind = kind;
            this.figure = figure;
        }

        int dueWhenTold(int hour) {
            return hour;
        }

        int sumOf(int mood, int facts) {
            return mood + facts;
        }

        int strengthOf(int sum) {
            return sum < 0 ? -sum : sum;
        }

        boolean buysOf(int left, int ownStrength) {
            return left > ownStrength;
        }

        int priceOf(int left, int rate) {
            return (left * rate + 3) / 4;
        }

        int fadeBy(int fade) {
            return fade;
        }

        int costOf() {
            return 6;
        }

        /** The class of what is thrown tells toss() which FAILURE it is. */
        void fail() {
            if (figure != 0) {
                throw new IllegalStateException("a plain failure");
            }
        }
    }

    private static final class Bride extends Plain {
        Bride(int kind, int figure) {
            super(kind, figure);
        }

        int dueWhenTold(int hour) {
            return Math.min(12, super.dueWhenTold(hour));
        }

        int costOf() {
            return super.costOf() + 12;
        }
    }

    private static class Firm extends Plain {
        Firm(int kind, int figure) {
            super(kind, figure);
        }

        int strengthOf(int sum) {
            return super.strengthOf(sum) + figure;
        }

        int fadeBy(int fade) {
            return Math.max(0, super.fadeBy(fade) - 1);
        }

        int costOf() {
            return super.costOf() + figure;
        }

        void fail() {
            if (figure != 0) {
                throw new IllegalArgumentException("a firm one's failure");
            }
        }
    }

    private static final class Sworn extends Firm {
        Sworn(int kind, int figure) {
            super(kind, figure);
        }

        int strengthOf(int sum) {
            return 2 * super.strengthOf(sum);
        }

        boolean buysOf(int left, int ownStrength) {
            return false;
        }

        int costOf() {
            return 2 * super.costOf();
        }
    }

    private static class General extends Plain {
        General(int kind, int figure) {
            super(kind, figure);
        }

        int sumOf(int mood, int facts) {
            return super.sumOf(mood, facts) + facts;
        }

        int costOf() {
            return super.costOf() + 9;
        }
    }

    private static final class King extends General {
        King(int kind, int figure) {
            super(kind, figure);
        }

        int sumOf(int mood, int facts) {
            return super.sumOf(0, facts);
        }

        int costOf() {
            return super.costOf() + figure;
        }

        void fail() {
            if (figure != 0) {
                throw new UnsupportedOperationException("a king's failure");
            }
        }
    }

    private static class Child extends Plain {
        Child(int kind, int figure) {
            super(kind, figure);
        }

        boolean buysOf(int left, int ownStrength) {
            return left >= ownStrength;
        }

        int priceOf(int left, int rate) {
            return super.priceOf(left, rate) / 2;
        }

        int costOf() {
            return super.costOf() / 2;
        }

        void fail() {
            // CHILDREN have no FAILURE, whatever their FIGURE
        }
    }

    private static final class Drunk extends Child {
        Drunk(int kind, int figure) {
            super(kind, figure);
        }

        int sumOf(int mood, int facts) {
            return super.sumOf(2 * mood, facts);
        }

        int priceOf(int left, int rate) {
            return Math.max(0, super.priceOf(left, rate) - 1);
        }

        int fadeBy(int fade) {
            return 2 * super.fadeBy(fade);
        }

        int costOf() {
            return super.costOf() - 1;
        }
    }

    /** All that there is, but SHELVES and THE IMAGE. */
    private static final class Town {
        int people;
        final Plain[] who;
        final int[] kase;
        final int[] hour;
        final int[] mood;
        final int[] coins;
        int facts;
        final int[] factCase;
        final int[] factWeight;
        final int[] factHour;
        final int[] factChance;
        int plants;
        final int[] plantCase;
        final int[] plantSide;
        final int[] plantStrength;
        final int[] plantPrice;
        final int[] plantHour;
        /** For each CASE the bits of its KIN, itself among them. */
        final int[] kinBits;
        /** OPEN, FADE, RATE. */
        final int[] rule;

        Town() {
            people = 0;
            who = new Plain[MOST_PEOPLE];
            Plain nobody = new Plain(0, 0);
            for (int p = 0; p < MOST_PEOPLE; p++) {
                who[p] = nobody;
            }
            kase = new int[MOST_PEOPLE];
            hour = new int[MOST_PEOPLE];
            mood = new int[MOST_PEOPLE];
            coins = new int[MOST_PEOPLE];
            facts = 0;
            factCase = new int[MOST_FACTS];
            factWeight = new int[MOST_FACTS];
            factHour = new int[MOST_FACTS];
            factChance = new int[MOST_FACTS];
            plants = 0;
            plantCase = new int[MOST_PLANTS];
            plantSide = new int[MOST_PLANTS];
            plantStrength = new int[MOST_PLANTS];
            plantPrice = new int[MOST_PLANTS];
            plantHour = new int[MOST_PLANTS];
            kinBits = new int[] {1, 2, 4, 8};
            rule = new int[] {15, 1, 4};
        }

        void become(Town other) {
            people = other.people;
            for (int p = 0; p < MOST_PEOPLE; p++) {
                who[p] = other.who[p];
                kase[p] = other.kase[p];
                hour[p] = other.hour[p];
                mood[p] = other.mood[p];
                coins[p] = other.coins[p];
            }
            facts = other.facts;
            for (int fact = 0; fact < MOST_FACTS; fact++) {
                factCase[fact] = other.factCase[fact];
                factWeight[fact] = other.factWeight[fact];
                factHour[fact] = other.factHour[fact];
                factChance[fact] = other.factChance[fact];
            }
            plants = other.plants;
            for (int plant = 0; plant < MOST_PLANTS; plant++) {
                plantCase[plant] = other.plantCase[plant];
                plantSide[plant] = other.plantSide[plant];
                plantStrength[plant] = other.plantStrength[plant];
                plantPrice[plant] = other.plantPrice[plant];
                plantHour[plant] = other.plantHour[plant];
            }
            System.arraycopy(other.kinBits, 0, kinBits, 0, CASES);
            System.arraycopy(other.rule, 0, rule, 0, RATE + 1);
        }

        /** Whether one of PEOPLE can't be so. */
        static boolean isNoOne(int kase, int hour, int mood, int coins) {
            return isOut(kase, 0, CASES - 1) || isOut(hour, 0, LAST_HOUR)
                    || isOut(mood, -MOST_MOOD, MOST_MOOD) || isOut(coins, 0, MOST_COINS);
        }

        int addOne(Plain one, int itsCase, int itsHour, int itsMood, int itsCoins) {
            if (isNoOne(itsCase, itsHour, itsMood, itsCoins)) {
                return NO_SUCH;
            }
            if (people >= MOST_PEOPLE) {
                return NO_ROOM;
            }
            who[people] = one;
            kase[people] = itsCase;
            hour[people] = itsHour;
            mood[people] = itsMood;
            coins[people] = itsCoins;
            people++;
            return people - 1;
        }

        /** One of PEOPLE is there no more: how many are left. */
        int dropOne(int gone) {
            for (int p = gone; p + 1 < people; p++) {
                who[p] = who[p + 1];
                kase[p] = kase[p + 1];
                hour[p] = hour[p + 1];
                mood[p] = mood[p + 1];
                coins[p] = coins[p + 1];
            }
            people--;
            return people;
        }

        int addFact(int itsCase, int weight, int itsHour) {
            if (isOut(itsCase, 0, CASES - 1) || isOut(weight, -MOST_WEIGHT, MOST_WEIGHT)
                    || isOut(itsHour, 0, LAST_HOUR)) {
                return NO_SUCH;
            }
            if (facts >= MOST_FACTS) {
                return NO_ROOM;
            }
            factCase[facts] = itsCase;
            factWeight[facts] = weight;
            factHour[facts] = itsHour;
            factChance[facts] = MOST_CHANCE;
            facts++;
            return facts - 1;
        }

        int addPlant(int itsCase, int side, int strength, int price, int itsHour) {
            if (isOut(itsCase, 0, CASES - 1) || isOut(strength, 1, MOST_STRENGTH)
                    || isOut(price, 0, MOST_COINS) || isOut(itsHour, 0, LAST_HOUR)) {
                return NO_SUCH;
            }
            if (plants >= MOST_PLANTS) {
                return NO_ROOM;
            }
            plantCase[plants] = itsCase;
            plantSide[plants] = side;
            plantStrength[plants] = strength;
            plantPrice[plants] = price;
            plantHour[plants] = itsHour;
            plants++;
            return plants - 1;
        }

        int turnKin(int a, int b) {
            if (isOut(a, 0, CASES - 1) || isOut(b, 0, CASES - 1) || a == b) {
                return NO_SUCH;
            }
            kinBits[a] ^= 1 << b;
            kinBits[b] ^= 1 << a;
            return areKin(a, b) ? 1 : 0;
        }

        boolean areKin(int a, int b) {
            return (kinBits[a] >> b & 1) != 0;
        }

        int pairsOfKin() {
            int pairs = 0;
            for (int a = 0; a < CASES; a++) {
                for (int b = a + 1; b < CASES; b++) {
                    pairs += areKin(a, b) ? 1 : 0;
                }
            }
            return pairs;
        }

        int changeRule(int what, int v) {
            int most = what == OPEN ? LAST_HOUR : what == FADE ? MOST_FADE : MOST_RATE;
            if (isOut(what, OPEN, RATE) || isOut(v, what == RATE ? 1 : 0, most)) {
                return NO_SUCH;
            }
            int before = rule[what];
            rule[what] = v;
            return before;
        }

        int allCoins() {
            int all = 0;
            for (int p = 0; p < people; p++) {
                all += coins[p];
            }
            return all;
        }

        /** What those FACTS of a CASE weigh that are there (bits) and known in an HOUR. */
        int weightOf(int itsCase, int known, int there) {
            int weight = 0;
            for (int fact = 0; fact < facts; fact++) {
                if (factCase[fact] == itsCase && factHour[fact] <= known && (there >> fact & 1) != 0) {
                    weight += factWeight[fact];
                }
            }
            return weight;
        }

        /** The text comes to be: how many STATEMENTS; the FAULT, what is ahead of which has come then. */
        int hear(Row text) {
            int wrong = firstWrong(text);
            if (wrong >= 0) {
                return TEXT_FAULT - wrong;
            }
            int many = 0;
            for (int at = 0; at < text.size; at += 1 + shapeBehind(text.at(at)).length()) {
                if (hearStatement(text, at) < 0) {
                    return STATEMENT_FAULT - at;
                }
                many++;
            }
            return many;
        }

        /** What stands behind a STATEMENT's letter: 0 for a digit, + for a sign; empty: it is no such letter. */
        private static String shapeBehind(int letter) {
            switch (letter) {
                case 'f': return "0+000;";
                case 'p': return "00000+000;";
                case 't': return "0+000000;";
                case 'k':
                case 'o': return "00;";
                case 'd':
                case 'r': return "0;";
                default: return "";
            }
        }

        /** The place of the first byte with which no TOWN can go on; below 0: there is none. */
        private static int firstWrong(Row text) {
            int at = 0;
            do {
                String shape = shapeBehind(text.at(at));
                if (shape.isEmpty()) {
                    return at;
                }
                for (int i = 0; i < shape.length(); i++) {
                    at++;
                    if (!fitsShape(shape.charAt(i), text.at(at))) {
                        return at;
                    }
                }
                at++;
            } while (at < text.size);
            return NONE;
        }

        private static boolean fitsShape(char shape, int letter) {
            switch (shape) {
                case '0': return letter >= '0' && letter <= '9';
                case '+': return letter == '+' || letter == '-';
                default: return letter == shape;
            }
        }

        /** Below 0: the STATEMENT is not as it must be. */
        private int hearStatement(Row text, int at) {
            switch (text.at(at)) {
                case 'f':
                    return addFact(text.digitAt(at + 1), text.signedAt(at + 2), text.pairAt(at + 4));
                case 'p':
                    if (text.digitAt(at + 1) > LAST_KIND) {
                        return NO_SUCH;
                    }
                    return addOne(oneOfKind(text.digitAt(at + 1), text.digitAt(at + 2)), text.digitAt(at + 3),
                            text.pairAt(at + 4), text.signedAt(at + 6), text.pairAt(at + 8));
                case 'k':
                    return turnKin(text.digitAt(at + 1), text.digitAt(at + 2));
                case 't':
                    return addPlant(text.digitAt(at + 1), text.signAt(at + 2), text.pairAt(at + 3),
                            text.pairAt(at + 5), text.pairAt(at + 7));
                case 'o':
                    return changeRule(OPEN, text.pairAt(at + 1));
                case 'd':
                    return changeRule(FADE, text.digitAt(at + 1));
                case 'r':
                    return changeRule(RATE, text.digitAt(at + 1));
                default:
                    return NOT_SO;
            }
        }
    }

    /**
     * What comes of a town in a day. A SECOND thought is known as soon as its owner has chosen,
     * for nothing that happens later changes it: so it is told then, with the HOUR from which it is for sale.
     */
    private static final class Day {
        private Town town;
        private int there;
        final int[] due;
        final int[] firstSum;
        /** SIDES: 1 yes, 0 undecided, -1 no. */
        final int[] choice;
        final int[] bought;
        final int[] paid;
        /** Of thoughts; 0: it never is for sale. */
        final int[] side;
        final int[] strength;
        final int[] from;
        final int[] fades;
        final int[] buyer;

        Day(Town town) {
            this.town = town;
            there = ALL_FACTS;
            due = new int[MOST_PEOPLE];
            firstSum = new int[MOST_PEOPLE];
            choice = new int[MOST_PEOPLE];
            bought = new int[MOST_PEOPLE];
            paid = new int[MOST_PEOPLE];
            side = new int[THOUGHTS];
            strength = new int[THOUGHTS];
            from = new int[THOUGHTS];
            fades = new int[THOUGHTS];
            buyer = new int[THOUGHTS];
        }

        /** The day of a town in which just some of its FACTS (bits) are there. */
        void run(Town told, int factsThere) {
            town = told;
            there = factsThere;
            for (int thought = 0; thought < THOUGHTS; thought++) {
                side[thought] = 0;
                buyer[thought] = NONE;
            }
            for (int p = 0; p < town.people; p++) {
                due[p] = town.who[p].dueWhenTold(town.hour[p]);
            }
            for (int plant = 0; plant < town.plants; plant++) {
                offer(MOST_PEOPLE + plant, town.plantSide[plant], town.plantStrength[plant], town.plantHour[plant],
                        town.rule[FADE]);
            }
            for (int hour = 0; hour <= LAST_HOUR; hour++) {
                for (int p = 0; p < town.people; p++) {
                    if (due[p] == hour) {
                        thinkFirst(p);
                        buyBest(p);
                        choose(p);
                        thinkAgain(p);
                    }
                }
            }
        }

        private void offer(int thought, int itsSide, int itsStrength, int hour, int fade) {
            side[thought] = itsSide;
            strength[thought] = itsStrength;
            from[thought] = hour;
            fades[thought] = fade;
        }

        private void thinkFirst(int p) {
            firstSum[p] = town.who[p].sumOf(town.mood[p], town.weightOf(town.kase[p], due[p], there));
        }

        private void choose(int p) {
            int thought = bought[p];
            if (thought < 0) {
                choice[p] = sideOf(firstSum[p]);
                return;
            }
            choice[p] = side[thought];
            buyer[thought] = p;
        }

        private void thinkAgain(int p) {
            int hour = Math.max(town.rule[OPEN], due[p] + 1);
            if (hour > LAST_HOUR) {
                return;
            }
            Plain one = town.who[p];
            int second = one.sumOf(town.mood[p], town.weightOf(town.kase[p], hour, there));
            if (second != 0 && sideOf(second) != choice[p]) {
                offer(p, sideOf(second), one.strengthOf(second), hour, one.fadeBy(town.rule[FADE]));
            }
        }

        /** Of the thoughts for sale one takes the best that it BUYS and can pay, if there is one. */
        private void buyBest(int p) {
            Plain one = town.who[p];
            int own = one.strengthOf(firstSum[p]);
            int bestLeft = 0;
            bought[p] = NONE;
            paid[p] = 0;
            for (int thought = 0; thought < THOUGHTS; thought++) {
                if (!isForSale(thought, due[p]) || !town.areKin(town.kase[p], caseOf(thought))) {
                    continue;
                }
                int left = leftOf(thought, due[p]);
                int price = thought < MOST_PEOPLE ? town.who[thought].priceOf(left, town.rule[RATE])
                        : town.plantPrice[thought - MOST_PEOPLE];
                if (!one.buysOf(left, own) || price > town.coins[p]) {
                    continue;
                }
                if (bought[p] < 0 || left > bestLeft || left == bestLeft && price < paid[p]) {
                    bought[p] = thought;
                    bestLeft = left;
                    paid[p] = price;
                }
            }
        }

        private int caseOf(int thought) {
            return thought < MOST_PEOPLE ? town.kase[thought] : town.plantCase[thought - MOST_PEOPLE];
        }

        /** What is left of a thought in an HOUR in which it is for sale. */
        private int leftOf(int thought, int hour) {
            return Math.max(0, strength[thought] - fades[thought] * (hour - from[thought]));
        }

        /** Whether a thought is there at an HOUR's end, something left of it, not sold. */
        private boolean isForSale(int thought, int hour) {
            if (side[thought] == 0 || from[thought] > hour) {
                return false;
            }
            boolean sold = buyer[thought] >= 0 && due[buyer[thought]] <= hour;
            return !sold && leftOf(thought, hour) > 0;
        }

        int toldChoice(int p) {
            return choice[p] < 0 ? 2 : choice[p];
        }

        /** The told CHOICES of all, two bits for each. */
        int choices() {
            int all = 0;
            for (int p = 0; p < town.people; p++) {
                all |= toldChoice(p) << 2 * p;
            }
            return all;
        }

        /** The bits of those that choose yes. */
        int sayYes() {
            int bits = 0;
            for (int p = 0; p < town.people; p++) {
                if (choice[p] > 0) {
                    bits |= 1 << p;
                }
            }
            return bits;
        }

        /** The COINS of one at an HOUR's end. */
        int coinsAt(int p, int hour) {
            int coins = town.coins[p];
            if (due[p] <= hour) {
                coins -= paid[p];
            }
            int other = buyer[p];
            if (other >= 0 && due[other] <= hour) {
                coins += paid[other];
            }
            return coins;
        }

        int fateOf(int p, int what) {
            boolean regrets = side[p] != 0;
            switch (what) {
                case 0: return toldChoice(p);
                case 1: return town.who[p].strengthOf(firstSum[p]);
                case 2: return bought[p];
                case 3: return bought[p] >= 0 ? paid[p] : NONE;
                case 4: return coinsAt(p, LAST_HOUR);
                case 5: return regrets ? 1 : 0;
                case 6: return regrets ? from[p] : NONE;
                case 7: return regrets ? strength[p] : NONE;
                default: return buyer[p];
            }
        }

        int countOf(int what) {
            switch (what) {
                case 0: return howManyChoose(1);
                case 1: return howManyChoose(-1);
                case 2: return howManyChoose(0);
                case 3: return howManySold();
                case 4: return allPaid();
                default: return howManyRegret();
            }
        }

        private int howManyChoose(int wanted) {
            int many = 0;
            for (int p = 0; p < town.people; p++) {
                many += choice[p] == wanted ? 1 : 0;
            }
            return many;
        }

        int howManySold() {
            int many = 0;
            for (int p = 0; p < town.people; p++) {
                many += bought[p] >= 0 ? 1 : 0;
            }
            return many;
        }

        int allPaid() {
            int all = 0;
            for (int p = 0; p < town.people; p++) {
                all += paid[p];
            }
            return all;
        }

        int howManyRegret() {
            int many = 0;
            for (int p = 0; p < town.people; p++) {
                many += side[p] != 0 ? 1 : 0;
            }
            return many;
        }

        /** The bits of thoughts for sale at an HOUR's end. */
        int marketAt(int hour) {
            int bits = 0;
            for (int thought = 0; thought < THOUGHTS; thought++) {
                if (isForSale(thought, hour)) {
                    bits |= 1 << thought;
                }
            }
            return bits;
        }

        /** A thought is always one's that chose earlier, so that a CHAIN is never longer than there are PEOPLE. */
        int chainOf(int p) {
            int thoughts = 0;
            int at = bought[p];
            for (int i = 0; i < MOST_PEOPLE && at >= 0; i++) {
                thoughts++;
                at = at < MOST_PEOPLE ? bought[at] : NONE;
            }
            return thoughts;
        }
    }

    /** A ROW of numbers; its cells are ints whatever its SORT, and hold what is left of a number in that SORT. */
    private static final class Row {
        int sort;
        int size;
        final int[] cells;

        Row() {
            sort = BYTES;
            size = 0;
            cells = new int[LONGEST_ROW];
        }

        void begin(int newSort, int newSize) {
            sort = newSort;
            size = newSize;
            for (int i = 0; i < LONGEST_ROW; i++) {
                cells[i] = 0;
            }
        }

        /** Whether there are n places from i on. */
        boolean hasPlaces(int i, int n) {
            return i >= 0 && n >= 0 && i <= size && n <= size - i;
        }

        /** 0 where there is no such place: a byte that no TOWN has. */
        int at(int i) {
            return hasPlaces(i, 1) ? cells[i] : 0;
        }

        void write(int i, int v) {
            if (hasPlaces(i, 1)) {
                cells[i] = sort == BYTES ? (byte) v : sort == SHORTS ? (short) v : v;
            }
        }

        /** Whether the least number of the SORT stands in a place: it tells nothing. */
        boolean isSkipped(int i) {
            int least = sort == BYTES ? -128 : sort == SHORTS ? -32768 : 1 << 31;
            return at(i) == least;
        }

        int digitAt(int i) {
            return at(i) - '0';
        }

        int pairAt(int i) {
            return 10 * digitAt(i) + digitAt(i + 1);
        }

        int signAt(int i) {
            return at(i) == '-' ? -1 : 1;
        }

        /** A sign and the digit behind it. */
        int signedAt(int i) {
            return signAt(i) * digitAt(i + 1);
        }
    }
}
