/** Promises 1 to 15: the town as told. */
public final class TownTest {
    private static final int NO_NUMBER = -1000000001;
    /** One of each KIND, with FIGURE 4, MOOD 3. */
    private static final String ONE_OF_EACH = "p04008+309;p14008+309;p24008+309;p34008+309;"
            + "p44008+309;p54008+309;p64008+309;p74008+309;";

    private TownTest() {
    }

    public static void main(String[] args) {
        promise1NewObject();
        promise2TownComes();
        promise2TextFaults();
        promise2StatementFaults();
        promise2RoomAndRefusals();
        promise3Person();
        promise4Weighs();
        promise5Strength();
        promise6Price();
        promise7Comes();
        promise8Leaves();
        promise9Mood();
        promise10Coins();
        promise11Fact();
        promise12About();
        promise13Chance();
        promise14Kin();
        promise15Set();
        Due.end("TownTest");
    }

    private static void counts(String name, ThoughtBetterOf x, int... due) {
        for (int what = 0; what < due.length; what++) {
            Due.is(name + ": count(" + what + ")", x.count(what), due[what]);
        }
    }

    private static void persons(String name, ThoughtBetterOf x, int p, int... due) {
        for (int what = 0; what < due.length; what++) {
            Due.is(name + ": person(" + p + ", " + what + ")", x.person(p, what), due[what]);
        }
    }

    private static void abouts(String name, ThoughtBetterOf x, int fact, int... due) {
        for (int what = 0; what < due.length; what++) {
            Due.is(name + ": about(" + fact + ", " + what + ")", x.about(fact, what), due[what]);
        }
    }

    private static void promise1NewObject() {
        ThoughtBetterOf x = new ThoughtBetterOf();
        counts("new", x, 0, 0, 0, 15, 1, 4, 0, 0);
        for (int d = 0; d < 8; d++) {
            Due.is("new: cost(" + d + ")", x.cost(d), -11);
        }
        for (int what = 0; what < 6; what++) {
            Due.is("new: sums(" + what + ")", x.sums(what), 0);
        }
        Due.is("new: person(0, 0)", x.person(0, 0), -1);
        Due.is("new: about(0, 0)", x.about(0, 0), -1);
        Due.is("new: leaves(0)", x.leaves(0), -1);
        Due.is("new: market(23)", x.market(23), 0);
        Due.is("new: longest()", x.longest(), 0);
        Due.is("new: mean(0)", x.mean(0), 0);
        Due.is("new: mean(1)", x.mean(1), 1);
        Due.is("new: turn(0, 0)", x.turn(0, 0), 0);
        Due.is("new: turn(1, 0)", x.turn(1, 0), -1);
        Due.is("new: guard(0)", x.guard(0), 0);
        Due.is("new: law(9)", x.law(9), 0);
        Due.is("new: bestRate()", x.bestRate(), 1);
        Due.is("new: bestOpen()", x.bestOpen(), 0);
        Due.is("new: without()", x.without(), 0);
        Due.is("new: again(0)", x.again(0), 1);
        Due.is("new: again(1)", x.again(1), 0);
        Due.is("new: seeds(20, 5, 0)", x.seeds(20, 5, 0), 0);
        Due.is("new: restore()", x.restore(), -3);
    }

    private static void promise2TownComes() {
        ThoughtBetterOf x = new ThoughtBetterOf();
        Due.is("all statements", Towns.tell(x, "o04;d7;r9;f3-923;f0+000;k13;t2-609923;p71323-999;p09000+000;"), 9);
        counts("all statements", x, 2, 2, 1, 4, 7, 9, 99, 1);
        persons("all statements", x, 0, 7, 1, 3, 23, 23, 99, 0);
        persons("all statements", x, 1, 0, 9, 0, 0, 0, 0, 9);
        abouts("all statements", x, 0, 3, 0, 23, 10);
        abouts("all statements", x, 1, 0, 9, 0, 10);
        Due.is("the row of a text stays", x.element(Towns.TEXT_SHELF, 0), 'o');
        Due.is("told once more", x.town(Towns.TEXT_SHELF), 9);
        counts("told once more", x, 4, 4, 2, 4, 7, 9, 198, 0);
        Due.is("k turns itself", Towns.tell(x, "k02;k20;k02;k23;"), 4);
        counts("k turns itself", x, 4, 4, 2, 4, 7, 9, 198, 2);
        Due.is("one statement", Towns.tell(x, "d0;"), 1);
        Due.is("a sign and 0", Towns.tell(x, "f1-000;p00000-000;"), 2);
        abouts("a sign and 0", x, 4, 1, 9, 0, 10);
        Due.is("a sign and 0", x.person(4, 6), 9);
        x.row(2, 0, 4);
        x.put(2, 0, 'o' + 256);
        x.put(2, 1, '1' - 256);
        x.put(2, 2, '2');
        x.put(2, 3, ';');
        Due.is("bytes keep their lowest bits", x.town(2), 1);
        Due.is("bytes keep their lowest bits", x.count(3), 12);
    }

    private static void promise2TextFaults() {
        String[] statements = {"f0+101;", "p00001+109;", "k01;", "t0+010000;", "o04;", "d1;", "r1;"};
        for (String statement : statements) {
            for (int i = 0; i < statement.length(); i++) {
                ThoughtBetterOf x = new ThoughtBetterOf();
                Due.is("cut at " + i + ": " + statement, Towns.tell(x, statement.substring(0, i)), -1000 - i);
                char other = Character.isDigit(statement.charAt(i)) ? '+' : '1';
                for (char wrong : new char[] {'?', other, 0, (char) 200, '/', ':', 'F'}) {
                    String text = statement.substring(0, i) + wrong + statement.substring(i + 1);
                    Due.is("wrong at " + i + ": " + statement, Towns.tell(x, text), -1000 - i);
                    Due.is("wrong behind at " + i + ": " + statement, Towns.tell(x, "d3;" + text), -1003 - i);
                }
                Due.is("nothing comes", x.count(4), 1);
            }
            Due.is("well: " + statement, Towns.tell(new ThoughtBetterOf(), statement), 1);
            Due.is("cut behind: " + statement, Towns.tell(new ThoughtBetterOf(), statement + "f"),
                    -1001 - statement.length());
        }
        ThoughtBetterOf x = new ThoughtBetterOf();
        Due.is("kind 1 is told ahead of kind 2", Towns.tell(x, "r0;x"), -1003);
        Due.is("kind 1 is told ahead of kind 2", Towns.tell(x, "r0;k00;d"), -1008);
        Due.is("no sign in front of a number", Towns.tell(x, "d-1;"), -1001);
        Due.is("two ends", Towns.tell(x, "d1;;"), -1003);
        x.row(0, 0, 100);
        Due.is("a row of 0", x.town(0), -1000);
        Due.is("100 bytes, something lacks", Towns.tell(x, "d1;".repeat(33) + "d"), -1100);
        Due.is("99 bytes", Towns.tell(x, "d1;".repeat(33)), 33);
        Due.is("a text with 0 behind", Towns.tell(x, "d1;\0"), -1003);
    }

    private static void promise2StatementFaults() {
        String[] wrong = {"f4+101;", "f9+101;", "f0+124;", "f0+199;", "p80001+109;", "p90001+109;", "p00401+109;",
            "p00024+109;", "k00;", "k33;", "k04;", "k40;", "k99;", "t4+010000;", "t0+000000;", "t0-610000;",
            "t0+990000;", "t0+010024;", "o24;", "o99;", "r0;"};
        for (String statement : wrong) {
            ThoughtBetterOf x = new ThoughtBetterOf();
            Due.is(statement, Towns.tell(x, statement), -2000);
            Due.is("d2;" + statement, Towns.tell(x, "d2;" + statement), -2003);
            String all = "o03;d2;r9;k01;f0+101;p00001+101;t0+010000;";
            Due.is(all + statement, Towns.tell(x, all + statement + "k22;"), -2000 - all.length());
            counts("nothing comes with " + statement, x, 0, 0, 0, 15, 1, 4, 0, 0);
        }
        String[] well = {"f3+923;", "f0-900;", "p79323-999;", "p00000+900;", "k30;", "k12;", "t3+609923;",
            "t0-010000;", "o23;", "o00;", "d0;", "d9;", "r1;", "r9;"};
        for (String statement : well) {
            Due.is(statement, Towns.tell(new ThoughtBetterOf(), statement), 1);
        }
    }

    private static void promise2RoomAndRefusals() {
        ThoughtBetterOf x = new ThoughtBetterOf();
        Due.is("7 facts", Towns.tell(x, "f0+101;".repeat(7)), -2042);
        Due.is("9 people", Towns.tell(x, "p00001+101;".repeat(9)), -2088);
        Due.is("4 plants", Towns.tell(x, "t0+010000;".repeat(4)), -2030);
        counts("no room, nothing comes", x, 0, 0, 0, 15, 1, 4, 0, 0);
        Due.is("6 facts", Towns.tell(x, "f0+101;".repeat(6)), 6);
        Due.is("8 people", Towns.tell(x, "p00001+101;".repeat(8)), 8);
        Due.is("3 plants", Towns.tell(x, "t0+010000;".repeat(3)), 3);
        counts("just room", x, 8, 6, 3, 15, 1, 4, 8, 0);
        Due.is("1 fact more", Towns.tell(x, "d1;f0+101;"), -2003);
        Due.is("1 more of people", Towns.tell(x, "d1;p00001+101;"), -2003);
        Due.is("1 plant more", Towns.tell(x, "d1;t0+010000;"), -2003);
        Due.is("town(-1)", x.town(-1), -1);
        Due.is("town(8)", x.town(8), -1);
        Due.is("town of nothing", x.town(3), -11);
        x.keep(3, 1, 2, 3);
        Due.is("town of one of people", x.town(3), -12);
        x.row(3, 1, 0);
        Due.is("town of shorts", x.town(3), -12);
        x.row(3, 2, 0);
        Due.is("town of ints", x.town(3), -12);
        x.row(3, 0, 0);
        Due.is("town of no bytes", x.town(3), -1000);
    }

    private static void promise3Person() {
        ThoughtBetterOf x = Towns.of("p12220-734;p13305+456;p19112+900;p02013-900;");
        persons("bride told 20", x, 0, 1, 2, 2, 20, 12, 34, 2);
        persons("bride told 5", x, 1, 1, 3, 3, 5, 5, 56, 13);
        persons("bride told 12", x, 2, 1, 9, 1, 12, 12, 0, 18);
        persons("plain told 13", x, 3, 0, 2, 0, 13, 13, 0, 0);
        Due.is("person(0, -1)", x.person(0, -1), -1);
        Due.is("person(0, 7)", x.person(0, 7), -1);
        Due.is("person(-1, 0)", x.person(-1, 0), -1);
        Due.is("person(4, 0)", x.person(4, 0), -1);
        ThoughtBetterOf each = Towns.of(ONE_OF_EACH);
        for (int kind = 0; kind < 8; kind++) {
            Due.is("kind", each.person(kind, 0), kind);
        }
    }

    private static void promise4Weighs() {
        ThoughtBetterOf x = Towns.of(ONE_OF_EACH);
        int[] sums = {-2, -2, -2, -2, -7, -10, -2, 1};
        int[] least = {-108, -108, -108, -108, -207, -198, -108, -117};
        for (int kind = 0; kind < 8; kind++) {
            Due.is("weighs(" + kind + ", 3, -5)", x.weighs(kind, 3, -5), sums[kind]);
            Due.is("weighs(" + kind + ", -9, -99)", x.weighs(kind, -9, -99), least[kind]);
            Due.is("weighs(" + kind + ", 9, 99)", x.weighs(kind, 9, 99), -least[kind]);
            Due.is("weighs(" + kind + ", 0, 0)", x.weighs(kind, 0, 0), 0);
        }
        Due.is("weighs(0, 10, 0)", x.weighs(0, 10, 0), NO_NUMBER);
        Due.is("weighs(0, -10, 0)", x.weighs(0, -10, 0), NO_NUMBER);
        Due.is("weighs(0, 0, 100)", x.weighs(0, 0, 100), NO_NUMBER);
        Due.is("weighs(0, 0, -100)", x.weighs(0, 0, -100), NO_NUMBER);
        Due.is("weighs(8, 0, 0)", x.weighs(8, 0, 0), NO_NUMBER);
        Due.is("weighs(-1, 0, 0)", x.weighs(-1, 0, 0), NO_NUMBER);
    }

    private static void promise5Strength() {
        ThoughtBetterOf x = Towns.of(ONE_OF_EACH);
        int[] ofSeven = {7, 7, 11, 22, 7, 7, 7, 7};
        int[] ofNothing = {0, 0, 4, 8, 0, 0, 0, 0};
        int[] most = {999, 999, 1003, 2006, 999, 999, 999, 999};
        for (int kind = 0; kind < 8; kind++) {
            Due.is("strength(" + kind + ", -7)", x.strength(kind, -7), ofSeven[kind]);
            Due.is("strength(" + kind + ", 7)", x.strength(kind, 7), ofSeven[kind]);
            Due.is("strength(" + kind + ", 0)", x.strength(kind, 0), ofNothing[kind]);
            Due.is("strength(" + kind + ", 999)", x.strength(kind, 999), most[kind]);
            Due.is("strength(" + kind + ", -999)", x.strength(kind, -999), most[kind]);
        }
        Due.is("strength(0, 1000)", x.strength(0, 1000), -1);
        Due.is("strength(0, -1000)", x.strength(0, -1000), -1);
        Due.is("strength(-1, 0)", x.strength(-1, 0), -1);
        Due.is("strength(8, 0)", x.strength(8, 0), -1);
    }

    private static void promise6Price() {
        ThoughtBetterOf x = Towns.of(ONE_OF_EACH + "r3;");
        int[] ofFive = {4, 4, 4, 4, 4, 4, 2, 1};
        int[] ofFour = {3, 3, 3, 3, 3, 3, 1, 0};
        int[] ofOne = {1, 1, 1, 1, 1, 1, 0, 0};
        int[] most = {2248, 2248, 2248, 2248, 2248, 2248, 1124, 1123};
        for (int kind = 0; kind < 8; kind++) {
            Due.is("price(" + kind + ", 5)", x.price(kind, 5), ofFive[kind]);
            Due.is("price(" + kind + ", 4)", x.price(kind, 4), ofFour[kind]);
            Due.is("price(" + kind + ", 1)", x.price(kind, 1), ofOne[kind]);
            Due.is("price(" + kind + ", 0)", x.price(kind, 0), 0);
        }
        x.set(2, 1);
        int[] quarters = {0, 1, 1, 1, 1, 2, 2, 2, 2, 3};
        for (int v = 0; v < quarters.length; v++) {
            Due.is("price(0, " + v + ") with RATE 1", x.price(0, v), quarters[v]);
            Due.is("price(6, " + v + ") with RATE 1", x.price(6, v), quarters[v] / 2);
        }
        Due.is("price(0, -1) with RATE 1", x.price(0, -1), -1);
        x.set(2, 9);
        for (int kind = 0; kind < 8; kind++) {
            Due.is("price(" + kind + ", 999)", x.price(kind, 999), most[kind]);
        }
        Due.is("price(0, 1000)", x.price(0, 1000), -1);
        Due.is("price(0, -1)", x.price(0, -1), -1);
        Due.is("price(-1, 0)", x.price(-1, 0), -1);
        Due.is("price(8, 0)", x.price(8, 0), -1);
    }

    private static void promise7Comes() {
        ThoughtBetterOf x = new ThoughtBetterOf();
        x.keep(0, 1, 3, 9);
        x.keep(1, 1, 1, 0);
        x.row(2, 0, 4);
        Due.is("comes", x.comes(0, 3, 23, -9, 99), 0);
        Due.is("comes", x.comes(1, 0, 20, 9, 0), 1);
        Due.is("comes once more", x.comes(0, 1, 0, 0, 50), 2);
        persons("comes", x, 0, 3, 9, 3, 23, 23, 99, 0);
        persons("comes", x, 1, 1, 0, 0, 20, 12, 0, 18);
        persons("comes", x, 2, 3, 9, 1, 0, 0, 50, 9);
        Due.is("it stays on the shelf", x.cost(0), 30);
        x.keep(0, 1, 7, 1);
        Due.is("those that came stay as they are", x.person(0, 0), 3);
        int[][] wrong = {{-1, 0, 0, 0, 0}, {8, 0, 0, 0, 0}, {0, -1, 0, 0, 0}, {0, 4, 0, 0, 0}, {0, 0, -1, 0, 0},
            {0, 0, 24, 0, 0}, {0, 0, 0, -10, 0}, {0, 0, 0, 10, 0}, {0, 0, 0, 0, -1}, {0, 0, 0, 0, 100}};
        for (int[] w : wrong) {
            Due.is("comes out of range", x.comes(w[0], w[1], w[2], w[3], w[4]), -1);
        }
        Due.is("comes of nothing", x.comes(3, 0, 0, 0, 0), -11);
        Due.is("comes of a row", x.comes(2, 0, 0, 0, 0), -12);
        Due.is("-1 ahead of -11", x.comes(3, 4, 0, 0, 0), -1);
        Due.is("-1 ahead of -12", x.comes(2, 0, 0, 0, 100), -1);
        for (int p = 3; p < 8; p++) {
            Due.is("comes", x.comes(0, 0, 0, 0, 0), p);
        }
        Due.is("no room", x.comes(0, 0, 0, 0, 0), -2);
        Due.is("-1 ahead of -2", x.comes(0, 0, 24, 0, 0), -1);
        Due.is("-11 ahead of -2", x.comes(3, 0, 0, 0, 0), -11);
        Due.is("-12 ahead of -2", x.comes(2, 0, 0, 0, 0), -12);
        Due.is("8 are there", x.count(0), 8);
    }

    private static void promise8Leaves() {
        ThoughtBetterOf x = Towns.of(ONE_OF_EACH);
        Due.is("leaves(8)", x.leaves(8), -1);
        Due.is("leaves(-1)", x.leaves(-1), -1);
        Due.is("leaves(7)", x.leaves(7), 7);
        Due.is("leaves(7) once more", x.leaves(7), -1);
        Due.is("leaves(0)", x.leaves(0), 6);
        Due.is("leaves(2)", x.leaves(2), 5);
        int[] kinds = {1, 2, 4, 5, 6};
        for (int p = 0; p < kinds.length; p++) {
            Due.is("who is left", x.person(p, 0), kinds[p]);
        }
        Due.is("person(5, 0)", x.person(5, 0), -1);
        Towns.tell(x, "p09322-807;");
        persons("there is room again", x, 5, 0, 9, 3, 22, 22, 7, 1);
        Due.is("leaves(3)", x.leaves(3), 5);
        persons("all of it moves", x, 4, 0, 9, 3, 22, 22, 7, 1);
        for (int left = 4; left >= 0; left--) {
            Due.is("leaves(0)", x.leaves(0), left);
        }
        Due.is("leaves(0), nobody there", x.leaves(0), -1);
    }

    private static void promise9Mood() {
        ThoughtBetterOf x = Towns.of("p00000-309;p00000+409;");
        Due.is("mood(0, 9)", x.mood(0, 9), 6);
        Due.is("mood(0, -9)", x.mood(0, -9), 18);
        Due.is("mood(0, 10)", x.mood(0, 10), -1);
        Due.is("mood(0, -10)", x.mood(0, -10), -1);
        Due.is("mood(2, 0)", x.mood(2, 0), -1);
        Due.is("mood(-1, 0)", x.mood(-1, 0), -1);
        Due.is("mood(0, 0)", x.mood(0, 0), 0);
        Due.is("mood(1, 0)", x.mood(1, 0), 13);
    }

    private static void promise10Coins() {
        ThoughtBetterOf x = Towns.of("p00000-309;p00000+440;");
        Due.is("coins(0, 99)", x.coins(0, 99), 9);
        Due.is("coins(0, 0)", x.coins(0, 0), 99);
        Due.is("coins(0, 100)", x.coins(0, 100), -1);
        Due.is("coins(0, -1)", x.coins(0, -1), -1);
        Due.is("coins(2, 0)", x.coins(2, 0), -1);
        Due.is("coins(-1, 0)", x.coins(-1, 0), -1);
        Due.is("coins(0, 5)", x.coins(0, 5), 0);
        Due.is("count(6)", x.count(6), 45);
    }

    private static void promise11Fact() {
        ThoughtBetterOf x = new ThoughtBetterOf();
        int[][] wrong = {{-1, 0, 0}, {4, 0, 0}, {0, -10, 0}, {0, 10, 0}, {0, 0, -1}, {0, 0, 24}};
        for (int[] w : wrong) {
            Due.is("fact out of range", x.fact(w[0], w[1], w[2]), -1);
        }
        for (int f = 0; f < 6; f++) {
            Due.is("fact", x.fact(f % 4, f % 2 == 0 ? 9 - f : f - 9, 4 * f), f);
        }
        Due.is("no room", x.fact(0, 0, 0), -2);
        Due.is("-1 ahead of -2", x.fact(4, 0, 0), -1);
        Due.is("6 are there", x.count(1), 6);
    }

    private static void promise12About() {
        ThoughtBetterOf x = new ThoughtBetterOf();
        x.fact(3, -9, 23);
        x.fact(0, 9, 0);
        x.fact(2, 4, 7);
        abouts("about", x, 0, 3, 0, 23, 10);
        abouts("about", x, 1, 0, 18, 0, 10);
        abouts("about", x, 2, 2, 13, 7, 10);
        Due.is("about(0, 4)", x.about(0, 4), -1);
        Due.is("about(0, -1)", x.about(0, -1), -1);
        Due.is("about(3, 0)", x.about(3, 0), -1);
        Due.is("about(-1, 0)", x.about(-1, 0), -1);
    }

    private static void promise13Chance() {
        ThoughtBetterOf x = Towns.of("f0+101;f1+101;");
        Due.is("chance(1, 0)", x.chance(1, 0), 10);
        Due.is("chance(1, 10)", x.chance(1, 10), 0);
        Due.is("chance(1, 3)", x.chance(1, 3), 10);
        Due.is("chance(1, 11)", x.chance(1, 11), -1);
        Due.is("chance(1, -1)", x.chance(1, -1), -1);
        Due.is("chance(2, 1)", x.chance(2, 1), -1);
        Due.is("chance(-1, 1)", x.chance(-1, 1), -1);
        Due.is("about(1, 3)", x.about(1, 3), 3);
        Due.is("about(0, 3)", x.about(0, 3), 10);
    }

    private static void promise14Kin() {
        ThoughtBetterOf x = new ThoughtBetterOf();
        Due.is("kin(0, 3)", x.kin(0, 3), 1);
        Due.is("kin(2, 1)", x.kin(2, 1), 1);
        Due.is("kin(3, 2)", x.kin(3, 2), 1);
        Due.is("count(7)", x.count(7), 3);
        Due.is("kin(3, 0)", x.kin(3, 0), 0);
        Due.is("kin(1, 2)", x.kin(1, 2), 0);
        Due.is("count(7)", x.count(7), 1);
        Due.is("kin(0, 3) again", x.kin(0, 3), 1);
        int[][] wrong = {{0, 0}, {3, 3}, {-1, 0}, {0, -1}, {4, 0}, {0, 4}};
        for (int[] w : wrong) {
            Due.is("kin out of range", x.kin(w[0], w[1]), -1);
        }
        Due.is("count(7)", x.count(7), 2);
    }

    private static void promise15Set() {
        ThoughtBetterOf x = new ThoughtBetterOf();
        Due.is("set(0, 23)", x.set(0, 23), 15);
        Due.is("set(0, 0)", x.set(0, 0), 23);
        Due.is("set(0, 24)", x.set(0, 24), -1);
        Due.is("set(0, -1)", x.set(0, -1), -1);
        Due.is("set(1, 9)", x.set(1, 9), 1);
        Due.is("set(1, 0)", x.set(1, 0), 9);
        Due.is("set(1, 10)", x.set(1, 10), -1);
        Due.is("set(1, -1)", x.set(1, -1), -1);
        Due.is("set(2, 9)", x.set(2, 9), 4);
        Due.is("set(2, 1)", x.set(2, 1), 9);
        Due.is("set(2, 10)", x.set(2, 10), -1);
        Due.is("set(2, 0)", x.set(2, 0), -1);
        Due.is("set(3, 1)", x.set(3, 1), -1);
        Due.is("set(-1, 1)", x.set(-1, 1), -1);
        counts("set", x, 0, 0, 0, 0, 0, 1);
    }
}
