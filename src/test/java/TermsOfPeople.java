/** Part I of the document's terms, as far as it tells what there is: sentence by sentence. */
final class TermsOfPeople {
    private static final String[] OF_EACH_KIND = {"PLAIN", "BRIDE", "FIRM", "SWORN", "GENERAL", "KING", "CHILD",
        "DRUNK"};

    private TermsOfPeople() {
    }

    static void all() {
        cases();
        facts();
        rules();
        plants();
        people();
        kinds();
        due();
        sums();
        strengths();
        sides();
        buys();
        prices();
        fades();
    }

    private static void cases() {
        Said.so("CASES 0 .. 3; two are KIN or not (not at first; each is its own KIN).");
        for (int a = 0; a < 4; a++) {
            for (int b = 0; b < 4; b++) {
                ThoughtBetterOf x = Towns.of("d0;t" + b + "-050000;p00" + a + "05+000;");
                String kin = a + " and " + b;
                Said.is(kin + ", at first", x.fate(0, 2), a == b ? 8 : -4);
                Said.is(kin + ", told", x.kin(a, b), a == b ? -1 : 1);
                Said.is(kin + ", KIN then", x.fate(0, 2), 8);
                Said.is(kin + ", told again", x.kin(b, a), a == b ? -1 : 0);
                Said.is(kin + ", not any more", x.fate(0, 2), a == b ? 8 : -4);
            }
        }
        for (int none : new int[] {-1, 4, Integer.MAX_VALUE, Integer.MIN_VALUE}) {
            ThoughtBetterOf x = new ThoughtBetterOf();
            Said.is("kin of CASE " + none, x.kin(none, 0), -1);
            Said.is("kin with CASE " + none, x.kin(0, none), -1);
            Said.is("a FACT of CASE " + none, x.fact(none, 0, 0), -1);
        }
    }

    private static void facts() {
        Said.so("FACTS 0 .. 5 as they come (6 at most): a CASE, a WEIGHT (-9 .. 9), an HOUR (0 .. 23) "
                + "from which on it is known, a CHANCE (0 .. 10 tenths; 10 at first).");
        ThoughtBetterOf x = new ThoughtBetterOf();
        for (int f = 0; f < 6; f++) {
            Said.is("FACT " + f, x.fact(0, 0, 0), f);
            Said.is("its CHANCE at first", x.about(f, 3), 10);
        }
        Said.is("a seventh", x.fact(0, 0, 0), -2);
        x = new ThoughtBetterOf();
        Said.is("WEIGHT -10", x.fact(0, -10, 0), -1);
        Said.is("WEIGHT 10", x.fact(0, 10, 0), -1);
        Said.is("HOUR -1", x.fact(0, 0, -1), -1);
        Said.is("HOUR 24", x.fact(0, 0, 24), -1);
        Said.is("WEIGHT -9, HOUR 23", x.fact(0, -9, 23), 0);
        Said.is("WEIGHT 9, HOUR 0", x.fact(0, 9, 0), 1);
        Said.is("CHANCE -1", x.chance(0, -1), -1);
        Said.is("CHANCE 11", x.chance(0, 11), -1);
        Said.is("CHANCE 0", x.chance(0, 0), 10);
        Said.is("CHANCE 10", x.chance(0, 10), 0);
        for (int hour = 0; hour < 24; hour++) {
            x = new ThoughtBetterOf();
            x.fact(0, 5, hour);
            x.keep(0, 1, 0, 0);
            for (int told = Math.max(0, hour - 1); told < Math.min(24, hour + 2); told++) {
                Said.is("one more", x.comes(0, 0, told, 0, 0), told - Math.max(0, hour - 1));
                Said.is("known from " + hour + " on, at " + told, x.sum(x.count(0) - 1), told < hour ? 0 : 5);
            }
        }
        x = Towns.of("f0+100;p00000+000;");
        for (int tenths = 0; tenths < 11; tenths++) {
            x.chance(0, tenths);
            Said.that(tenths + " tenths", 10 * x.likely(0, 0) == tenths * x.likely(0, 1));
        }
    }

    private static void rules() {
        Said.so("OPEN (0 .. 23: the HOUR from which on thoughts are for sale; 15 at first), "
                + "FADE (0 .. 9 of STRENGTH an HOUR; 1 at first), RATE (1 .. 9; 4 at first).");
        int[] first = {15, 1, 4};
        int[] least = {0, 0, 1};
        int[] most = {23, 9, 9};
        for (int what = 0; what < 3; what++) {
            ThoughtBetterOf x = new ThoughtBetterOf();
            Said.is("at first, " + what, x.count(3 + what), first[what]);
            Said.is("the least less 1, " + what, x.set(what, least[what] - 1), -1);
            Said.is("the most and 1, " + what, x.set(what, most[what] + 1), -1);
            Said.is("as it was, " + what, x.count(3 + what), first[what]);
            Said.is("the least, " + what, x.set(what, least[what]), first[what]);
            Said.is("the most, " + what, x.set(what, most[what]), least[what]);
            Said.is("it is that, " + what, x.count(3 + what), most[what]);
        }
        // no at 8, 6 for yes from OPEN on
        for (int open = 9; open < 24; open++) {
            ThoughtBetterOf x = Towns.of("f0+909;p00008-300;");
            x.set(0, open);
            Said.is("ahead of OPEN " + open, x.market(open - 1), 0);
            Said.is("at OPEN " + open, x.market(open), 1);
        }
        Said.is("PLANTS do not wait for OPEN", Towns.of("o23;d9;t0+609900;").market(3), 256);
        for (int fade = 0; fade < 10; fade++) {
            ThoughtBetterOf x = Towns.of("t0+600000;d" + fade + ";");
            for (int hour = 0; hour < 24; hour++) {
                Said.is("FADE " + fade + " at " + hour, x.market(hour), fade * hour < 60 ? 256 : 0);
            }
        }
    }

    private static void plants() {
        Said.so("PLANTS 0 .. 2 as they come (3 at most): a CASE, a SIDE (1 yes, -1 no), a STRENGTH (1 .. 60), "
                + "a PRICE (0 .. 99), an HOUR (0 .. 23).");
        ThoughtBetterOf x = new ThoughtBetterOf();
        for (int plant = 0; plant < 3; plant++) {
            Said.is("PLANT " + plant, Towns.tell(x, "t0+600000;"), 1);
            Said.is("its bit", x.market(0), (256 << plant + 1) - 256);
        }
        Said.is("a fourth", Towns.tell(x, "t0+600000;"), -2000);
        Said.is("three", x.count(2), 3);
        String[] wrong = {"t4+100000;", "t0+000000;", "t0+610000;", "t0+100024;"};
        String[] well = {"t3+100000;", "t0+010000;", "t0+600000;", "t0+100023;", "t0+109900;", "t0-100000;"};
        for (String plant : wrong) {
            Said.is(plant, Towns.tell(new ThoughtBetterOf(), plant), -2000);
        }
        for (String plant : well) {
            Said.is(plant, Towns.tell(new ThoughtBetterOf(), plant), 1);
        }
        Said.is("SIDE yes", Towns.of("t0+050000;p00000-100;").fate(0, 0), 1);
        Said.is("SIDE no", Towns.of("t0-050000;p00000+100;").fate(0, 0), 2);
        Said.is("PRICE 99", Towns.of("t0-059900;p00000+199;").fate(0, 3), 99);
        Said.is("PRICE 99, COINS 98", Towns.of("t0-059900;p00000+198;").fate(0, 3), -4);
        Said.is("PRICE 0, COINS 0", Towns.of("t0-050000;p00000+100;").fate(0, 3), 0);
    }

    private static void people() {
        Said.so("PEOPLE 0 .. 7 as they come (8 at most), of KINDS, each with a FIGURE (0 .. 9), a CASE, "
                + "an HOUR told (0 .. 23), a MOOD (-9 .. 9), COINS (0 .. 99).");
        ThoughtBetterOf x = new ThoughtBetterOf();
        x.keep(0, 1, 0, 9);
        int[][] wrong = {{-1, 0, 0, 0}, {4, 0, 0, 0}, {0, -1, 0, 0}, {0, 24, 0, 0}, {0, 0, -10, 0}, {0, 0, 10, 0},
            {0, 0, 0, -1}, {0, 0, 0, 100}};
        for (int[] one : wrong) {
            Said.is("one out of range", x.comes(0, one[0], one[1], one[2], one[3]), -1);
        }
        Said.is("FIGURE -1", x.keep(0, 1, 0, -1), -1);
        Said.is("FIGURE 10", x.keep(0, 1, 0, 10), -1);
        Said.is("nobody came", x.count(0), 0);
        Said.is("all of the most", x.comes(0, 3, 23, 9, 99), 0);
        x.keep(0, 1, 0, 0);
        Said.is("all of the least", x.comes(0, 0, 0, -9, 0), 1);
        int[][] due = {{0, 9, 3, 23, 23, 99, 18}, {0, 0, 0, 0, 0, 0, 0}};
        for (int p = 0; p < 2; p++) {
            for (int what = 0; what < 7; what++) {
                Said.is("person(" + p + ", " + what + ")", x.person(p, what), due[p][what]);
            }
        }
        for (int p = 2; p < 8; p++) {
            Said.is("one more", x.comes(0, 0, 0, 0, 0), p);
        }
        Said.is("a ninth", x.comes(0, 0, 0, 0, 0), -2);
    }

    private static void kinds() {
        Said.so("KINDS: 0 PLAIN; 1 BRIDE under PLAIN; 2 FIRM under PLAIN; 3 SWORN under FIRM; 4 GENERAL under PLAIN; "
                + "5 KING under GENERAL; 6 CHILD under PLAIN; 7 DRUNK under CHILD.");
        ThoughtBetterOf x = oneOfEach(4, 20);
        int[] dues = {20, 12, 20, 20, 20, 20, 20, 20};
        int[] strengths = {6, 6, 10, 20, 6, 6, 6, 6};
        int[] sums = {7, 7, 7, 7, 12, 10, 7, 9};
        int[] prices = {10, 10, 10, 10, 10, 10, 5, 4};
        for (int kind = 0; kind < 8; kind++) {
            String name = OF_EACH_KIND[kind];
            Said.is(name, x.person(kind, 0), kind);
            Said.is(name + " DUE", x.person(kind, 4), dues[kind]);
            Said.is(name + " STRENGTH", x.strength(kind, -6), strengths[kind]);
            Said.is(name + " SUM", x.weighs(kind, 2, 5), sums[kind]);
            Said.is(name + " PRICE", x.price(kind, 10), prices[kind]);
        }
        Said.is("KIND 8", x.keep(0, 1, 8, 0), -1);
        Said.is("KIND -1", x.keep(0, 1, -1, 0), -1);
        Said.is("KIND 8 in a text", Towns.tell(new ThoughtBetterOf(), "p80000+000;"), -2000);
    }

    private static ThoughtBetterOf oneOfEach(int figure, int hour) {
        ThoughtBetterOf x = new ThoughtBetterOf();
        for (int kind = 0; kind < 8; kind++) {
            x.keep(0, 1, kind, figure);
            x.comes(0, 0, hour, 0, 0);
        }
        return x;
    }

    private static void due() {
        Said.so("DUE: the HOUR told; of a BRIDE 12 at most.");
        for (int hour : new int[] {0, 11, 12, 13, 23}) {
            ThoughtBetterOf x = oneOfEach(9, hour);
            for (int kind = 0; kind < 8; kind++) {
                String name = OF_EACH_KIND[kind] + " told " + hour;
                Said.is(name, x.person(kind, 4), kind == 1 && hour > 12 ? 12 : hour);
                Said.is(name + ", HOUR told", x.person(kind, 3), hour);
            }
        }
        // what is known at 13 comes too late for a BRIDE told 13, not for others
        Said.is("a BRIDE", Towns.of("f0+113;p10013+000;").fate(0, 0), 0);
        Said.is("a PLAIN one", Towns.of("f0+113;p00013+000;").fate(0, 0), 1);
    }

    private static void sums() {
        Said.so("SUM of a MOOD and what FACTS weigh: PLAIN both together; GENERAL a PLAIN's and what FACTS weigh once "
                + "more; KING a GENERAL's with MOOD 0; DRUNK a CHILD's with twice the MOOD; others as what they are "
                + "under.");
        ThoughtBetterOf x = oneOfEach(9, 0);
        int[] moods = {9, -9, 9, -9, 0, 9, -9, 0, 4};
        int[] facts = {99, -99, -99, 99, 99, 0, 0, 0, -3};
        int[][] due = {
            {108, 108, 108, 108, 207, 198, 108, 117}, {-108, -108, -108, -108, -207, -198, -108, -117},
            {-90, -90, -90, -90, -189, -198, -90, -81}, {90, 90, 90, 90, 189, 198, 90, 81},
            {99, 99, 99, 99, 198, 198, 99, 99}, {9, 9, 9, 9, 9, 0, 9, 18}, {-9, -9, -9, -9, -9, 0, -9, -18},
            {0, 0, 0, 0, 0, 0, 0, 0}, {1, 1, 1, 1, -2, -6, 1, 5}};
        for (int i = 0; i < due.length; i++) {
            for (int kind = 0; kind < 8; kind++) {
                Said.is(OF_EACH_KIND[kind] + " of " + moods[i] + " and " + facts[i],
                        x.weighs(kind, moods[i], facts[i]), due[i][kind]);
            }
        }
    }

    private static void strengths() {
        Said.so("STRENGTH of a SUM: it without its sign; FIRM FIGURE more (of SUM 0 too); SWORN twice a FIRM's.");
        for (int figure : new int[] {0, 1, 9}) {
            ThoughtBetterOf x = oneOfEach(figure, 0);
            for (int sum : new int[] {0, 1, -1, 7, -7, 999, -999}) {
                int plain = sum < 0 ? -sum : sum;
                for (int kind = 0; kind < 8; kind++) {
                    int due = kind == 2 ? plain + figure : kind == 3 ? plain + figure + plain + figure : plain;
                    Said.is(OF_EACH_KIND[kind] + " of " + sum, x.strength(kind, sum), due);
                }
            }
        }
        Said.is("FIRM, SUM 0 in a day", Towns.of("p29000+000;").fate(0, 1), 9);
        Said.is("SWORN, SUM 0 in a day", Towns.of("p39000+000;").fate(0, 1), 18);
    }

    private static void sides() {
        Said.so("SIDE of a SUM: 1 above 0, -1 below, 0 else.");
        Said.is("above 0", Towns.of("p00000+100;").fate(0, 0), 1);
        Said.is("below 0", Towns.of("p00000-100;").fate(0, 0), 2);
        Said.is("0", Towns.of("p00000+000;").fate(0, 0), 0);
        Said.is("FIRM, 0", Towns.of("p29000+000;").fate(0, 0), 0);
    }

    private static void buys() {
        Said.so("BUYS: a thought of which more is left than its own STRENGTH; CHILDREN (and DRUNKS) one of which as "
                + "much is left, too; a SWORN one none.");
        // the own STRENGTH of each is 6
        String[] own = {"p00000+600;", "p10000-600;", "p22000+400;", "p32000+100;", "p40000+600;", "f0+300;p50000+900;",
            "p60000-600;", "p70000+300;"};
        for (int kind = 0; kind < 8; kind++) {
            for (int left = 1; left <= 60; left++) {
                ThoughtBetterOf x = Towns.of(own[kind] + "t0-" + left / 10 + left % 10 + "0000;");
                boolean due = kind != 3 && (left > 6 || kind > 5 && left == 6);
                Said.is(OF_EACH_KIND[kind] + " own 6, left " + left, x.fate(0, 2), due ? 8 : -4);
                Said.is(OF_EACH_KIND[kind] + ", own STRENGTH", x.fate(0, 1), 6);
            }
        }
        Said.is("SWORN, own 0, left 60", Towns.of("p30000+000;t0-600000;").fate(0, 2), -4);
    }

    private static void prices() {
        Said.so("PRICE of its own thought of which v is left: v times RATE by 4, rounded up; CHILD half of that, cut; "
                + "DRUNK 1 less than a CHILD's, 0 at least.");
        ThoughtBetterOf x = oneOfEach(9, 0);
        int[][] due = {
            // v, RATE, PLAIN, CHILD, DRUNK
            {0, 9, 0, 0, 0}, {1, 1, 1, 0, 0}, {4, 1, 1, 0, 0}, {5, 1, 2, 1, 0}, {8, 1, 2, 1, 0}, {9, 1, 3, 1, 0},
            {12, 1, 3, 1, 0}, {13, 1, 4, 2, 1}, {1, 4, 1, 0, 0}, {2, 4, 2, 1, 0}, {3, 4, 3, 1, 0}, {4, 4, 4, 2, 1},
            {5, 4, 5, 2, 1}, {1, 9, 3, 1, 0}, {3, 9, 7, 3, 2}, {4, 9, 9, 4, 3}, {999, 9, 2248, 1124, 1123},
            {999, 1, 250, 125, 124}, {999, 4, 999, 499, 498}};
        for (int[] d : due) {
            x.set(2, d[1]);
            for (int kind = 0; kind < 8; kind++) {
                Said.is(OF_EACH_KIND[kind] + ", v " + d[0] + ", RATE " + d[1], x.price(kind, d[0]),
                        kind == 7 ? d[4] : kind == 6 ? d[3] : d[2]);
            }
        }
        // a DRUNK's thought of which 1 is left costs 0, and nobody gets anything back for it
        ThoughtBetterOf drunk = Towns.of("o00;d0;f0+901;p70000-405;p00002-905;");
        Said.is("a DRUNK's for 0, sold", drunk.fate(1, 2), 0);
        Said.is("a DRUNK's for 0, paid", drunk.fate(1, 3), 0);
        Said.is("a DRUNK's for 0, COINS", drunk.fate(0, 4), 5);
    }

    private static void fades() {
        Said.so("Its own thought FADES an HOUR by FADE; of a FIRM one by 1 less, 0 at least; of a DRUNK by twice "
                + "FADE.");
        // MOOD -3 at 0; a FACT of 9 at 1, when the SECOND thought comes for sale
        int[] strength = {6, 6, 6, 12, 15, 18, 6, 3};
        for (int kind = 0; kind < 8; kind++) {
            ThoughtBetterOf x = Towns.of("o00;f0+901;p" + kind + "0000-300;");
            Said.is(OF_EACH_KIND[kind] + ", STRENGTH then", x.fate(0, 7), strength[kind]);
            for (int fade = 0; fade < 10; fade++) {
                x.set(1, fade);
                int due = kind == 7 ? fade + fade : kind != 2 && kind != 3 ? fade : fade == 0 ? 0 : fade - 1;
                for (int hour = 1; hour < 24; hour++) {
                    Said.is(OF_EACH_KIND[kind] + ", FADE " + fade + ", at " + hour, x.market(hour),
                            due * (hour - 1) < strength[kind] ? 1 : 0);
                }
            }
        }
    }
}
