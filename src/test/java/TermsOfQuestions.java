/** Part II of the document's terms, what is asked of a day: sentence by sentence. */
final class TermsOfQuestions {
    /** 0 chooses no at 0, regrets at 1 when the fact is known, and sells 6 for 6 to 1, which is undecided at 2. */
    private static final String SALE = "o00;d0;f0+901;p00000-310;p00002-930;";
    private static final int[] LEAST = {-128, -32768, Integer.MIN_VALUE};

    private TermsOfQuestions() {
    }

    static void all() {
        fate();
        sums();
        market();
        chain();
        turners();
        yes();
        moods();
        likely();
        turn();
        guard();
        law();
        best();
        purse();
        two();
        without();
        again();
        explained();
        forged();
        judged();
        seeds();
    }

    private static void fates(String text, int p, int... due) {
        ThoughtBetterOf x = Towns.of(text);
        for (int what = 0; what < 9; what++) {
            Said.is("fate(" + p + ", " + what + ") of " + text, x.fate(p, what), due[what]);
        }
    }

    private static void fate() {
        Said.so("FATE of one: its CHOICE (1, 0 undecided, 2 no); SUM, STRENGTH of its FIRST thought; whose thought it "
                + "bought (a number; 8 and the PLANT's); what it paid; COINS at the end; 1 it REGRETS; the HOUR its "
                + "SECOND one comes for sale, its STRENGTH then; who bought it.");
        fates(SALE, 0, 2, 3, -4, -4, 16, 1, 1, 6, 1);
        fates(SALE, 1, 1, 0, 0, 6, 24, 0, -4, -4, -4);
        Said.is("SUM of its FIRST thought", Towns.of(SALE).sum(0), -3);
        Said.is("SUM of its FIRST thought, undecided", Towns.of(SALE).sum(1), 0);
        // its STRENGTH when it came for sale, though nothing of it is left at the end
        fates("o10;d9;f0+910;p00005+000;", 0, 0, 0, -4, -4, 0, 1, 10, 9, -4);
        String plants = "d0;t0-600100;t0-500200;t0-400300;p00000+109;p00000+109;p00000+109;p00000+109;";
        fates(plants, 0, 2, 1, 8, 1, 8, 1, 15, 1, -4);
        fates(plants, 1, 2, 1, 9, 2, 7, 1, 15, 1, -4);
        fates(plants, 2, 2, 1, 10, 3, 6, 1, 15, 1, -4);
        fates(plants, 3, 1, 1, -4, -4, 9, 0, -4, -4, -4);
        // 7 sells to 0: who bought it is 0, no refusal
        String eight = "o00;d0;f0+901;p00002-930;" + "p30123+000;".repeat(6) + "p00000-310;";
        fates(eight, 0, 1, 0, 7, 6, 24, 0, -4, -4, -4);
        fates(eight, 7, 2, 3, -4, -4, 16, 1, 1, 6, 0);
    }

    private static void sums() {
        Said.so("SUMS: how many choose yes, no, nothing; thoughts sold; all that was paid; how many REGRET.");
        int[][] due = {{1, 1, 0, 1, 6, 1}, {0, 0, 0, 0, 0, 0}, {8, 0, 0, 0, 0, 0}, {0, 8, 0, 0, 0, 0},
            {0, 0, 8, 0, 0, 0}, {3, 1, 0, 3, 197, 0}};
        String[] texts = {SALE, "d1;", "p00000+100;".repeat(8), "p00000-100;".repeat(8), "p00000+000;".repeat(8),
            // 99, 98 and 0 for PLANTS' thoughts
            "d0;t0+609900;t0+509800;t0+400000;p00000+199;p00000+198;p00000+100;p00000-100;"};
        for (int i = 0; i < due.length; i++) {
            for (int what = 0; what < 6; what++) {
                Said.is("sums(" + what + ") of " + texts[i], Towns.of(texts[i]).sums(what), due[i][what]);
            }
        }
        Said.is("all eight REGRET, no PLANT", Towns.of("f0+101;t1+600000;" + "p00000-000;".repeat(8)).sums(5), 8);
    }

    private static void market() {
        Said.so("MARKET: whose thoughts (bits, PLANTS from bit 8 on) are for sale at an HOUR's end, of which something "
                + "is left, not sold.");
        // SWORN ones by four CASES: 2, 4, 6 and 8 for sale from 10 on
        StringBuilder eight = new StringBuilder("o10;");
        for (int p = 0; p < 8; p++) {
            eight.append("p30" + p % 4 + "00+000;");
        }
        ThoughtBetterOf x = Towns.of(eight + "f0+110;f1+210;f2+310;f3+410;t0+010010;t0+020010;t0+030010;");
        Said.is("ahead of OPEN", x.market(9), 0);
        Said.is("all of them", x.market(10), 0x7FF);
        Said.is("the first PLANT's is gone", x.market(11), 0x6FF);
        Said.is("the second one's, too", x.market(12), 0x4FF);
        Said.is("the PLANTS' are gone", x.market(13), 0xFF);
        Said.is("at the end", x.market(23), 0xFF);
        x.set(1, 2);
        Said.is("1 an HOUR of 2 to 8, 2 of the PLANTS'", x.market(11), 0x400 + 0xFF);
        Said.is("2 of those of 2 are gone", x.market(12), 0xEE);
        Said.is("4 are gone", x.market(14), 0xCC);
        Said.is("6 are gone", x.market(16), 0x88);
        Said.is("8 are gone", x.market(18), 0);
        // sold in an HOUR: not there at its end
        x = Towns.of(SALE);
        Said.is("not for sale yet", x.market(0), 0);
        Said.is("for sale", x.market(1), 1);
        Said.is("sold", x.market(2), 0);
        x.coins(1, 5);
        Said.is("not sold", x.market(2), 1);
    }

    private static void chain() {
        Said.so("CHAIN of one: how many thoughts are behind its CHOICE (0 its own; 1 and the CHAIN of who sold it; a "
                + "PLANT's 1); the greatest of all.");
        Said.is("its own", Towns.of(SALE).chain(0), 0);
        Said.is("one's", Towns.of(SALE).chain(1), 1);
        Said.is("the greatest", Towns.of(SALE).longest(), 1);
        Said.is("a PLANT's", Towns.of("t0-600000;p00000+100;").chain(0), 1);
        Said.is("the greatest of nobody", new ThoughtBetterOf().longest(), 0);
        Said.is("the greatest, all by themselves", Towns.of("p00000+100;p00000-100;").longest(), 0);
        // 7 buys a PLANT's thought at 0, 6 that of 7 at 1, and so on
        StringBuilder eight = new StringBuilder("o00;d0;t0+090000;");
        for (int p = 0; p < 8; p++) {
            eight.append("p0000").append(7 - p).append(p % 2 == 1 ? "-" : "+").append(p + 1).append("99;");
        }
        ThoughtBetterOf x = Towns.of(eight.toString());
        for (int p = 0; p < 8; p++) {
            Said.is("of eight, " + p, x.chain(p), 8 - p);
        }
        Said.is("the greatest of eight", x.longest(), 8);
    }

    private static void turners() {
        Said.so("FACTS THAT TURN one: those (bits) without each of which alone its CHOICE is another one.");
        Said.is("none without FACTS", Towns.of("p00000+100;").turners(0), 0);
        Said.is("to nothing", Towns.of("f0+100;p00000+000;").turners(0), 1);
        Said.is("from nothing", Towns.of("f0+100;p00000-100;").turners(0), 1);
        Said.is("to no", Towns.of("f0+300;f0-100;f0+300;p00000-400;").turners(0), 5);
        Said.is("none of two alone", Towns.of("f0+900;f0+900;p00000-300;").turners(0), 0);
        Said.is("all six", Towns.of("f0+100;".repeat(6) + "p00000-500;").turners(0), 63);
        Said.is("known too late", Towns.of("f0+101;p00000+000;").turners(0), 0);
        Said.is("by what others sell", Towns.of("f1+900;" + SALE).turners(1), 2);
        Said.is("a FACT of CHANCE 0 is there", chances("f0+100;p00000+000;", 0).turners(0), 1);
    }

    private static void yes() {
        Said.so("YES: HOURS (bits), were each told to it, at which its CHOICE is yes.");
        Said.is("always", Towns.of("p00000+100;").yes(0), 0xFFFFFF);
        Said.is("never", Towns.of("p00000+000;").yes(0), 0);
        for (int hour = 0; hour < 24; hour++) {
            ThoughtBetterOf x = new ThoughtBetterOf();
            x.fact(0, 1, hour);
            x.keep(0, 1, 0, 0);
            x.comes(0, 0, 23 - hour, 0, 0);
            Said.is("from " + hour + " on", x.yes(0), 0x1000000 - (1 << hour));
            x.keep(0, 1, 1, 0);
            x.comes(0, 0, 0, 0, 0);
            Said.is("a BRIDE, from " + hour + " on", x.yes(1), hour > 12 ? 0 : 0x1000000 - (1 << hour));
        }
        Said.is("while a PLANT's is there", Towns.of("d2;t0+050003;p00009+000;").yes(0), 8 + 16 + 32);
    }

    private static void moods() {
        Said.so("MOODS: how many MOODS (-9 .. 9) with which it is yes; the least; -4.");
        for (int facts = -9; facts < 10; facts++) {
            ThoughtBetterOf x = new ThoughtBetterOf();
            x.fact(0, facts, 0);
            x.keep(0, 1, 0, 0);
            x.comes(0, 0, 0, facts, 0);
            int many = Math.min(19, 9 + facts);
            Said.is("FACTS of " + facts, x.moods(0, 0), many);
            Said.is("the least, FACTS of " + facts, x.moods(0, 1), many == 0 ? -4 : 19 - many);
        }
        Said.is("a KING's, all", Towns.of("f0+100;p50000-900;").moods(0, 0), 19);
        Said.is("a KING's, none", Towns.of("p50000+900;").moods(0, 0), 0);
        Said.is("a KING's, the least", Towns.of("f0+100;p50000+900;").moods(0, 1), 0);
        Said.is("a KING's, no least", Towns.of("p50000+900;").moods(0, 1), -4);
        // bought yes with -4 to 4, by itself with 5 to 9
        Said.is("bought, too", Towns.of("t0+050000;p00000+000;").moods(0, 0), 14);
    }

    private static ThoughtBetterOf chances(String text, int... chances) {
        ThoughtBetterOf x = Towns.of(text);
        for (int f = 0; f < chances.length; f++) {
            x.chance(f, chances[f]);
        }
        return x;
    }

    private static void fraction(String name, long above, long below, long... due) {
        Said.is(name + ", above", above, due[0]);
        Said.is(name + ", below", below, due[1]);
    }

    private static void likely(ThoughtBetterOf x, long above, long below) {
        fraction("likely", x.likely(0, 0), x.likely(0, 1), above, below);
    }

    private static void likely() {
        Said.so("LIKELY: each FACT is there by its CHANCE, by itself: how likely its CHOICE is yes; how many choose "
                + "yes in the mean: fractions in least terms.");
        likely(Towns.of("p00000+100;"), 1, 1);
        likely(Towns.of("p00000+000;"), 0, 1);
        int[][] least = {{0, 1}, {1, 10}, {1, 5}, {3, 10}, {2, 5}, {1, 2}, {3, 5}, {7, 10}, {4, 5}, {9, 10}, {1, 1}};
        for (int tenths = 0; tenths < 11; tenths++) {
            likely(chances("f0+100;p00000+000;", tenths), least[tenths][0], least[tenths][1]);
            likely(chances("f0-100;p00000+100;", tenths), least[10 - tenths][0], least[10 - tenths][1]);
        }
        // at least one of two: 1 less 1/2 of 7/10; both: 3/20; just the one: 7/20
        likely(chances("f0+100;f0+100;p00000+000;", 5, 3), 13, 20);
        likely(chances("f0+100;f0+100;p00000-100;", 5, 3), 3, 20);
        likely(chances("f0+100;f0-100;p00000+000;", 5, 3), 7, 20);
        likely(chances("f0+100;".repeat(6) + "p00000-500;", 1, 1, 1, 1, 1, 1), 1, 1000000);
        likely(chances("f0+100;".repeat(6) + "p00000+000;", 1, 1, 1, 1, 1, 1), 468559, 1000000);
        ThoughtBetterOf x = new ThoughtBetterOf();
        fraction("the mean of nobody", x.mean(0), x.mean(1), 0, 1);
        x = Towns.of("p00000+100;".repeat(8));
        fraction("the mean of eight", x.mean(0), x.mean(1), 8, 1);
        x = chances("f0+100;p00000+000;p00000+000;p00000+100;p00000-100;", 5);
        fraction("the mean of four", x.mean(0), x.mean(1), 2, 1);
        x = chances("f0+100;p00000+000;p00000+000;p00000+100;p00000-100;", 3);
        fraction("the mean of four by 3", x.mean(0), x.mean(1), 8, 5);
        x = chances("f0+100;".repeat(6) + "p00000-500;".repeat(8), 9, 9, 9, 9, 9, 9);
        fraction("the mean of eight by six", x.mean(0), x.mean(1), 531441, 125000);
    }

    private static void turn(String text, int set, int strength, int kase) {
        ThoughtBetterOf x = Towns.of(text);
        Said.is("STRENGTH for " + set + " of " + text, x.turn(set, 0), strength);
        Said.is("CASE for " + set + " of " + text, x.turn(set, 1), kase);
    }

    private static void turn() {
        Said.so("TURN: PEOPLE (bits) that are all to choose yes: the least STRENGTH (1 .. 60) of a PLANT more "
                + "(SIDE yes, PRICE 0, HOUR 0) of some CASE with which they do (0: they do without); the CASE, of "
                + "several the least; -4 none (there are 3, too).");
        turn("p00000-100;p00000+100;", 2, 0, -4);
        turn("p00000-100;p00000+100;", 0, 0, -4);
        turn("p00000-100;p00000+100;", 3, 2, 0);
        turn("p00000+100;p00000-100;", 3, -4, -4);
        turn("p00000+000;", 1, 1, 0);
        turn("d9;p00006-500;", 1, 60, 0);
        turn("d9;p00006-600;", 1, -4, -4);
        turn("p30000-100;", 1, -4, -4);
        turn("p00000-100;p00000-100;", 3, -4, -4);
        for (int kase = 0; kase < 4; kase++) {
            turn("p00" + kase + "00-100;", 1, 2, kase);
            turn("k23;p00" + kase + "00-100;", 1, 2, Math.min(2, kase));
            turn("k30;p00" + kase + "00-100;", 1, 2, kase == 3 ? 0 : kase);
        }
        turn("d0;t1+010000;t1+010000;p00000-100;", 1, 2, 0);
        turn("d0;t1+010000;t1+010000;t1+010000;p00000-100;", 1, -4, -4);
        turn("d0;t1+010000;t1+010000;t1+010000;p00000+100;", 1, 0, -4);
        // it is the last of PLANTS: of as much left for the same PRICE the one that is there is taken
        turn("d0;t0-050000;p00000-300;", 1, 6, 0);
        turn("d0;t0-050100;p00000-309;", 1, 5, 0);
        // no COINS are needed, and HOUR 0 is early enough
        turn("d1;p00000-900;", 1, 10, 0);
        turn("d1;p00023-900;", 1, 33, 0);
    }

    private static void guard() {
        Said.so("GUARD: the least FADE (0 .. 9) with which the CHOICES of told PEOPLE (bits) are as they would be "
                + "without PLANTS; -4.");
        ThoughtBetterOf x = Towns.of("t0+280003;p00006-100;p00106-100;p00003-900;");
        // 28 less 3 for each FADE are left at 6: with 9 it is 1, as much as its own; at 3 it is bought by 2 in any case
        Said.is("2 buys it", x.guard(4), -4);
        x.leaves(2);
        Said.is("0 is told", x.guard(1), 9);
        Said.is("1 is told", x.guard(2), 0);
        Said.is("both are told", x.guard(3), 9);
        Said.is("nobody is told", x.guard(0), 0);
        x.mood(0, 0);
        Said.is("1 is left, its own is 0", x.guard(1), -4);
        x.set(1, 5);
        Said.is("FADE of now does not matter", x.guard(1), -4);
        Said.is("no PLANTS", Towns.of(SALE).guard(3), 0);
        Said.is("the PLANT says what they choose", Towns.of("t0-600000;p00000-100;").guard(1), 0);
        Said.is("by what others sell", Towns.of("o00;t0-600300;p00003+103;p00004+099;").guard(2), -4);
    }

    private static void law() {
        Said.so("LAW: how many CHOICES are other ones with a FADE.");
        // 30 less 3 for each FADE are left at 3, 30 less 6 for each at 6; their own are 9
        ThoughtBetterOf x = Towns.of("d0;t0-300000;t1-300000;p00003+900;p00106+900;");
        int[] due = {0, 0, 0, 0, 1, 1, 1, 2, 2, 2};
        for (int fade = 0; fade < 10; fade++) {
            Said.is("FADE " + fade, x.law(fade), due[fade]);
        }
        x.set(1, 9);
        for (int fade = 0; fade < 10; fade++) {
            Said.is("FADE " + fade + " by 9", x.law(fade), 2 - due[fade]);
        }
        Said.is("FADE -1", x.law(-1), -1);
        Said.is("FADE 10", x.law(10), -1);
    }

    private static void best() {
        Said.so("BEST RATE: with which most is paid, of several the least.");
        Said.is("nothing is sold", Towns.of("p00000+100;").bestRate(), 1);
        Said.is("6 by 9 of 4, 30 COINS", Towns.of(SALE).bestRate(), 9);
        // 22 of a SWORN one's, for 50 with RATE 9
        String sworn = "o00;d0;f0+901;p35000-300;p00002-9";
        Said.is("22, 99 COINS", Towns.of(sworn + "99;").bestRate(), 9);
        Said.is("22, 49 COINS", Towns.of(sworn + "49;").bestRate(), 8);
        Said.is("22, 11 COINS", Towns.of(sworn + "11;").bestRate(), 2);
        Said.is("22, 6 COINS", Towns.of(sworn + "06;").bestRate(), 1);
        Said.is("22, 5 COINS: never", Towns.of(sworn + "05;").bestRate(), 1);
        // 1 is left, for 1 with RATES 1 to 4, 2 with 5 to 8, 3 with 9
        Said.is("1 left, 2 COINS", Towns.of("o00;d0;f0+401;p00000-300;p00002-402;").bestRate(), 5);
        Said.is("1 left, 1 of COINS", Towns.of("o00;d0;f0+401;p00000-300;p00002-401;").bestRate(), 1);
        // a CHILD's 1 is given away till RATE 4, and costs 1 from 5 on
        Said.is("1 of a CHILD's", Towns.of("o00;d0;f0+401;p60000-300;p00002-401;").bestRate(), 5);
        Said.is("a PLANT's, the same by all", Towns.of("t0-050700;p00000+109;").bestRate(), 1);
        Said.so("BEST OPEN: with which fewest REGRET, of several the least.");
        Said.is("nobody", new ThoughtBetterOf().bestOpen(), 0);
        Said.is("nobody REGRETS", Towns.of("p00000+100;").bestOpen(), 0);
        Said.is("one in any case", Towns.of("f0+901;p00000-300;").bestOpen(), 0);
        Said.is("none from 23 on", Towns.of("f0+901;f0-923;p00000-300;").bestOpen(), 23);
        Said.is("none till 22", Towns.of("f0+923;p00000-300;").bestOpen(), 0);
        // with OPEN 0 all eight regret, from 5 on the last one does not
        ThoughtBetterOf eight = Towns.of("f0+901;f1+901;f1-905;p00100-300;" + "p00000-300;".repeat(7));
        Said.is("seven from 5 on", eight.bestOpen(), 5);
        Said.is("none from 5 to 8", Towns.of("f0+901;f0-905;f0+909;p00000-300;").bestOpen(), 5);
    }

    private static void purse() {
        Said.so("PURSE of one: the least COINS (0 .. 99) with which its CHOICE is as with 99.");
        Said.is("nothing to buy", Towns.of("p00000+100;").purse(0), 0);
        for (int price = 0; price < 100; price++) {
            ThoughtBetterOf x = Towns.of("t0-05" + price / 10 + price % 10 + "00;p00000+100;");
            Said.is("a PRICE of " + price, x.purse(0), price);
        }
        Said.is("one's thought", Towns.of(SALE).purse(1), 6);
        Said.is("the same SIDE", Towns.of("t0+050900;p00000+100;").purse(0), 0);
        // yes for 20, no for 10: yes with 20 and more, and with less than 10, too
        Said.is("too poor, and as with 99", Towns.of("t0+052000;t0-041000;p00000+199;").purse(0), 0);
        Said.is("no by itself, yes for 20", Towns.of("t0+052000;t0-041000;p00000-199;").purse(0), 20);
    }

    private static void two() {
        Said.so("TWO each WAIT 0, 1 or 2 HOURS (a choice 0, 1, 2; the HOUR told so much later, 23 at most): the first "
                + "pair (10 times the first's and the other's) by which neither has more COINS at the end by another "
                + "choice alone; -4.");
        Said.is("no reason", Towns.of("p00000+000;p00000+000;").two(0, 1), 0);
        // what costs 9 is gone after 1, 2 or 3 HOURS
        String other = "p00122+000;";
        Said.is("gone at 6", Towns.of("d9;t0+090905;p00005+009;" + other).two(0, 1), 10);
        Said.is("gone at 6, the other one's", Towns.of("d9;t0+090905;p00005+009;" + other).two(1, 0), 1);
        Said.is("gone at 7", Towns.of("d9;t0+180905;p00005+009;" + other).two(0, 1), 20);
        Said.is("gone at 8, too late", Towns.of("d9;t0+270905;p00005+009;" + other).two(0, 1), 0);
        Said.is("gone at 8, the other one's", Towns.of("d9;t0+270905;p00005+009;" + other).two(1, 0), 0);
        // 23 at most: told 22 or 23, the PLANT's of 23 is there with each that is later
        Said.is("22, gone at 23", Towns.of("d9;t0+090922;p00022+009;" + other).two(0, 1), 10);
        Said.is("23 stays 23", Towns.of("d9;t0+090923;p00023+009;" + other).two(0, 1), 0);
        Said.is("22, there at 23", Towns.of("d9;t0+180922;p00022+009;" + other).two(0, 1), 0);
        Said.is("both wait", Towns.of("d9;t0+090905;t0+090906;p00005+009;p00005+009;").two(0, 1), 22);
        Said.is("waiting costs the seller", Towns.of(SALE).two(0, 1), 0);
        Said.is("one twice", Towns.of(SALE).two(1, 1), -1);
        Said.is("none", Towns.of("o01;d1;r3;t0-120207;p51008-533;p43007+411;").two(0, 1), -4);
    }

    private static void without() {
        Said.so("WITHOUT a MARKET: how many CHOICES are other ones (OPEN aside: nothing is bought).");
        Said.is("nobody", new ThoughtBetterOf().without(), 0);
        Said.is("one's", Towns.of(SALE).without(), 1);
        Said.is("a PLANT's", Towns.of("t0-050000;p00000+100;").without(), 1);
        Said.is("the same SIDE", Towns.of("t0+050000;p00000+100;").without(), 0);
        Said.is("all three of them", Towns.of("d0;t0-600000;t0-600000;t0-600000;p00000+100;p00001+000;p00002+100;")
                .without(), 3);
        ThoughtBetterOf x = Towns.of(SALE);
        x.set(0, 23);
        Said.is("OPEN too late", x.without(), 0);
        x = Towns.of("d0;t0-600000;p00005+000;p00000+100;");
        Said.is("the last one", x.without(), 1);
        x.leaves(1);
        Said.is("it is there no more", x.without(), 1);
        x.leaves(0);
        Said.is("nobody is", x.without(), 0);
    }

    private static void again(String name, String text, int day, int ahead) {
        ThoughtBetterOf x = Towns.of(text);
        Said.is(name + ", the day", x.again(0), day);
        Said.is(name + ", that one ahead", x.again(1), ahead);
    }

    private static void again() {
        Said.so("AGAIN: days one behind the other, each with the MOODS of the one ahead, but of those that REGRETTED "
                + "in it 1 more if its SECOND thought was yes, 1 less if no (-9 to 9 held), all else as it is now: the "
                + "first day (1 ..) with the MOODS of which a day ahead (0 ..: now) began; that one ahead; -4 not in "
                + "40.");
        again("nobody REGRETS", "p00000+100;", 1, 0);
        again("up from -3 to 1", "f0+901;p00000-300;", 5, 4);
        again("down from 3 to -1", "f0-901;p00000+300;", 5, 4);
        again("a KING held at 9", "f0+901;p50000+700;", 3, 2);
        again("a KING held at -9", "f0-901;p50000-700;", 3, 2);
        again("a KING who is there", "f0+901;p50000+900;", 1, 0);
        again("from -9 to 9", "f0+901;p50000-900;", 19, 18);
        // yes is bought with -1 to -4, the SECOND thought is no; with -5 the PLANT's 5 are not more than its own
        again("down by a PLANT's", "d0;t0+050000;p00000-100;", 5, 4);
        // 9 and 9 to -9 one behind the other, and -6 (or -5) down to -9
        again("the last that is in 40", "d0;f0-900;f0-100;t0+190000;p00005+900;p00005+900;p00005-600;", 40, 39);
        again("the first that is not", "d0;f0-900;f0-100;t0+190000;p00005+900;p00005+900;p00005-500;", -4, -4);
    }

    private static int[] told(int sort, int... values) {
        int[] row = values.clone();
        for (int i = 0; i < row.length; i++) {
            row[i] = row[i] == -1 ? LEAST[sort] : row[i];
        }
        return row;
    }

    /** -1 stands for the least number of each SORT. */
    private static void explained(String text, int many, int least, int... values) {
        for (int sort = 0; sort < 3; sort++) {
            ThoughtBetterOf x = Towns.of(text);
            Towns.row(x, 0, sort, told(sort, values));
            Said.is("how many, SORT " + sort + ", " + text, x.explained(0, 0), many);
            Said.is("the least, SORT " + sort + ", " + text, x.explained(0, 1), least);
        }
    }

    private static void explained() {
        Said.so("EXPLAINED: a ROW of numbers tells CHOICES of PEOPLE 0, 1, .. (1, 0, 2; the least number of the SORT "
                + "is skipped): how many of FADES (0 .. 9) with OPENS (0 .. 23) it fits; the least, 100 times FADE and "
                + "OPEN; -4.");
        String plain = "p00000+100;p00000+000;p00000-100;";
        explained(plain, 240, 0);
        explained(plain, 240, 0, 1);
        explained(plain, 240, 0, 1, 0, 2);
        explained(plain, 240, 0, -1, -1, 2);
        explained(plain, 0, -4, 1, 0, 1);
        explained(plain, 0, -4, 1, 2);
        explained(plain, 0, -4, 3);
        explained(plain, 0, -4, -2);
        // 6 from OPEN on, to be had at 12: with FADE 0 by 13 OPENS, with 1 by 6, 2 by 3, 3 to 5 by 2, 6 to 9 by 1
        String late = "f0+901;p00000-300;p00012-999;";
        explained(late, 32, 0, 2, 1);
        explained(late, 208, 13, 2, 0);
        // just with OPEN 23: its own thought is for sale then
        explained("f0+923;p00000-300;p00023-999;", 10, 23, 2, 1);
        // just with FADE 9: one less is left than its own
        explained("t0+230002;p00004-500;", 24, 900, 2);
    }

    private static void forged(String text, int due, int... values) {
        for (int sort = 0; sort < 3; sort++) {
            ThoughtBetterOf x = Towns.of(text);
            Towns.row(x, 0, sort, told(sort, values));
            Said.is("SORT " + sort + ", " + text, x.forged(0), due);
        }
    }

    private static void forged() {
        Said.so("FORGED: the first place such that no FADE and OPEN fit all up to it; -4.");
        String plain = "p00000+100;p00000+000;p00000-100;";
        forged(plain, -4);
        forged(plain, -4, 1, 0, 2);
        forged(plain, 0, 2, 0, 2);
        forged(plain, 1, 1, 1, 1);
        forged(plain, 2, 1, 0, 0);
        forged(plain, 2, -1, -1, 1);
        forged(plain, -4, -1, -1, -1);
        forged(plain, 0, 3);
        forged("t0+050000;p00005+000;", -4, 1);
        forged("t0+230002;p00004-500;", -4, 2);
        forged("f0+923;p00000-300;p00023-999;", -4, 2, 1);
        // each of two fits by some FADE, but not both by one
        String two = "t0+230002;t1+230002;p00004-500;p00104-500;";
        forged(two, -4, 1, 1);
        forged(two, -4, 2, 2);
        forged(two, 1, 1, 2);
        forged(two, 1, 2, 1);
        forged(two, -4, 2, -1);
        // each of two fits by some OPEN, but not both by one
        String open = "f0+901;p00000-300;f1+901;p00100-300;p00012-999;p00112-999;";
        forged(open, 3, -1, -1, 1, 0);
        forged(open, 3, -1, -1, 0, 1);
        forged(open, -4, -1, -1, 1, 1);
        forged(open, -4, -1, -1, 0, 0);
        forged(open, -4, -1, -1, -1, 1);
    }

    private static void judged() {
        Said.so("JUDGED: a ROW tells COINS of one at the ends of HOURS 0, 1, ..: the first that is not so (behind 23, "
                + "too; the least number of the SORT is skipped); -4.");
        // 10 at 0 and 1, 16 from 2 on, when 1 pays 6 of 30
        for (int sort = 0; sort < 3; sort++) {
            for (int p = 0; p < 2; p++) {
                for (int wrong = -1; wrong < 27; wrong++) {
                    ThoughtBetterOf x = Towns.of(SALE);
                    int[] row = new int[Math.min(27, Math.max(24, wrong + 1))];
                    for (int hour = 0; hour < row.length; hour++) {
                        row[hour] = p == 0 ? hour < 2 ? 10 : 16 : hour < 2 ? 30 : 24;
                    }
                    if (wrong >= 0 && wrong < 24) {
                        row[wrong]++;
                    }
                    Towns.row(x, 0, sort, row);
                    Said.is("wrong at " + wrong + ", SORT " + sort, x.judge(p, 0),
                            wrong < 0 ? -4 : Math.min(24, wrong));
                    for (int i = 0; i < row.length; i++) {
                        x.put(0, i, LEAST[sort]);
                    }
                    Said.is("all skipped, SORT " + sort, x.judge(p, 0), -4);
                }
            }
        }
        ThoughtBetterOf x = Towns.of(SALE);
        x.row(0, 0, 0);
        Said.is("nothing told", x.judge(0, 0), -4);
        Towns.row(x, 0, 0, 10);
        Said.is("HOUR 0 alone", x.judge(0, 0), -4);
    }

    private static void seeds() {
        Said.so("SEEDS with a seed z: n (1 .. 20) days, each MOOD a DRAW below 19 less 9 (by numbers): how many choose "
                + "yes in all; how many thoughts are sold.");
        ThoughtBetterOf x = Towns.of("p00000+000;p30000+000;t0+050000;p00100+000;d0;");
        for (int z : new int[] {0, 1, -1, 12345, -987654321, Integer.MAX_VALUE, Integer.MIN_VALUE}) {
            for (int n : new int[] {1, 2, 19, 20}) {
                long drawn = z & 0xffffffffL;
                int yes = 0;
                int sold = 0;
                for (int i = 0; i < 3 * n; i++) {
                    drawn = (drawn * 1103515245L + 12345L) & 0xffffffffL;
                    long mood = (drawn & 0x7fffffffL) / 65536 % 19 - 9;
                    // 0 may buy 5 for yes; 1 buys nothing; nothing is for sale for 2
                    boolean buys = i % 3 == 0 && mood > -5 && mood < 5;
                    sold += buys ? 1 : 0;
                    yes += buys || mood > 0 ? 1 : 0;
                }
                Said.is("yes in " + n + " days by " + z, x.seeds(n, z, 0), yes);
                Said.is("sold in " + n + " days by " + z, x.seeds(n, z, 1), sold);
            }
            Said.is("0 days", x.seeds(0, z, 0), -1);
            Said.is("21 days", x.seeds(21, z, 0), -1);
        }
        Said.so("A DRAW below n: z becomes z times 1103515245 plus 12345 (an int); (z without its sign's bit over "
                + "65536, cut) modulo n.");
        // by seed 0: z 12345, then -740551042: 0 and 21468 modulo 19, that is 0 and 17, less 9: -9 and 8
        Said.is("one day by 0", Towns.of("p00000+000;").seeds(1, 0, 0), 0);
        Said.is("two days by 0", Towns.of("p00000+000;").seeds(2, 0, 0), 1);
        Said.is("one day of two by 0", Towns.of("p00000+000;p00000+000;").seeds(1, 0, 0), 1);
        Said.is("nobody draws", new ThoughtBetterOf().seeds(20, 0, 0), 0);
    }
}
