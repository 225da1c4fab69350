/** Promises 22 to 35: what turns one. */
public final class TurnTest {
    private static final int NO_NUMBER = -1000000001;
    private static final String SALE = "o10;d2;f0+509;p00008-320;p00010-510;";
    private static final String CHAIN = "o00;d0;t0-050000;p00001+209;p00002-109;p00003+009;p00004+309;";

    private TurnTest() {
    }

    public static void main(String[] args) {
        promise22Turners();
        promise23Yes();
        promise24Moods();
        promise25Likely();
        promise26Mean();
        promise27Turn();
        promise28Guard();
        promise29Law();
        promise30BestRate();
        promise31BestOpen();
        promise32Purse();
        promise33Two();
        promise34Without();
        promise35Again();
        Due.end("TurnTest");
    }

    private static void promise22Turners() {
        String facts = "f0+501;f0-101;f0-220;f1+900;";
        Due.is("yes, 2 above", Towns.of(facts + "p00005-200;").turners(0), 1);
        Due.is("undecided", Towns.of(facts + "p00005-400;").turners(0), 3);
        Due.is("yes, by far", Towns.of(facts + "p00005+900;").turners(0), 0);
        Due.is("all known", Towns.of(facts + "p00020-200;").turners(0), 7);
        Due.is("each alone, not both", Towns.of("f0+901;f0+901;p00005-500;").turners(0), 0);
        Due.is("chances do not matter", chancesGone(Towns.of(facts + "p00005-200;")).turners(0), 1);
        // what others sell depends on facts, too
        Due.is("by the market", Towns.of("f3+100;" + SALE).turners(1), 2);
        Due.is("by the market", Towns.of("f3+100;" + SALE).turners(0), 0);
        Due.is("six facts", Towns.of("f0+101;".repeat(6) + "p00005-600;").turners(0), 63);
        Due.is("turners(1)", Towns.of(facts + "p00005-200;").turners(1), -1);
        Due.is("turners(-1)", Towns.of(facts + "p00005-200;").turners(-1), -1);
    }

    private static ThoughtBetterOf chancesGone(ThoughtBetterOf x) {
        for (int f = 0; f < x.count(1); f++) {
            x.chance(f, 0);
        }
        return x;
    }

    private static void promise23Yes() {
        Due.is("from 9 on", Towns.of("f0+509;p00000-300;").yes(0), 0xFFFE00);
        Due.is("always", Towns.of("p00023+100;").yes(0), 0xFFFFFF);
        Due.is("never", Towns.of("p00023+000;").yes(0), 0);
        Due.is("no", Towns.of("p00023-100;").yes(0), 0);
        Due.is("a bride in time", Towns.of("f0+512;p10000-300;").yes(0), 0xFFF000);
        Due.is("a bride too late", Towns.of("f0+513;p10000-300;").yes(0), 0);
        Due.is("by a plant", Towns.of("d2;t0+040005;p00023-100;").yes(0), 0x60);
        Due.is("by one's thought", Towns.of(SALE).yes(1), 0x400);
        ThoughtBetterOf x = Towns.of(SALE);
        Due.is("yes(2)", x.yes(2), -1);
        Due.is("yes(-1)", x.yes(-1), -1);
        x.yes(1);
        Due.is("its hour is as it was", x.person(1, 3), 10);
    }

    private static void moods(String text, int many, int least) {
        Due.is(text + " moods(0, 0)", Towns.of(text).moods(0, 0), many);
        Due.is(text + " moods(0, 1)", Towns.of(text).moods(0, 1), least);
    }

    private static void promise24Moods() {
        moods("f0+500;p00000+000;", 14, 5);
        moods("p00000-900;", 9, 10);
        moods("f0+500;p50000-900;", 19, 0);
        moods("p50000+900;", 0, -4);
        moods("f0+500;p70000+000;", 12, 7);
        moods("f0-300;p40000+000;", 3, 16);
        moods("f0-900;p00000+000;", 0, -4);
        moods("f0-800;p00000+000;", 1, 18);
        moods("t0+050000;p00000+000;", 14, 5);
        moods("t0-050000;p00000+000;", 5, 14);
        moods("f0-900;t0+010000;p00000-000;", 1, 18);
        ThoughtBetterOf x = Towns.of("p00000+300;");
        Due.is("moods(0, 2)", x.moods(0, 2), -1);
        Due.is("moods(0, -1)", x.moods(0, -1), -1);
        Due.is("moods(1, 0)", x.moods(1, 0), -1);
        Due.is("moods(-1, 0)", x.moods(-1, 0), -1);
        Due.is("its mood is as it was", x.person(0, 6), 12);
    }

    private static void likely(String name, ThoughtBetterOf x, int p, long above, long below) {
        Due.is(name + ": likely(" + p + ", 0)", x.likely(p, 0), above);
        Due.is(name + ": likely(" + p + ", 1)", x.likely(p, 1), below);
    }

    private static ThoughtBetterOf chances(String text, int... chances) {
        ThoughtBetterOf x = Towns.of(text);
        for (int f = 0; f < chances.length; f++) {
            x.chance(f, chances[f]);
        }
        return x;
    }

    private static void promise25Likely() {
        likely("one fact", chances("f0+500;p00000-300;", 5), 0, 1, 2);
        likely("one fact, never", chances("f0+500;p00000-300;", 0), 0, 0, 1);
        likely("one fact, always", chances("f0+500;p00000-300;", 10), 0, 1, 1);
        likely("one fact, in tenths", chances("f0+500;p00000-300;", 3), 0, 3, 10);
        likely("one fact against", chances("f0-500;p00000+300;", 3), 0, 7, 10);
        likely("two facts", chances("f0+500;f0-400;p00000-200;", 5, 3), 0, 7, 20);
        likely("two facts", chances("f0+500;f0-400;p00000+000;", 5, 3), 0, 1, 2);
        likely("no facts", Towns.of("p00000+100;p00000+000;"), 0, 1, 1);
        likely("no facts", Towns.of("p00000+100;p00000+000;"), 1, 0, 1);
        likely("six facts", chances("f0+100;".repeat(6) + "p00000-500;", 1, 1, 1, 1, 1, 1), 0, 1, 1000000);
        likely("six facts", chances("f0+100;".repeat(6) + "p00000-500;", 9, 9, 9, 9, 9, 9), 0, 531441, 1000000);
        likely("six facts", chances("f0-100;".repeat(6) + "p00000+100;", 7, 7, 7, 7, 7, 7), 0, 729, 1000000);
        // 1 chooses yes by what 0 sells, if the fact is there
        likely("by the market", chances(SALE, 4), 1, 2, 5);
        ThoughtBetterOf x = Towns.of("p00000+100;");
        Due.is("likely(0, 2)", x.likely(0, 2), NO_NUMBER);
        Due.is("likely(0, -1)", x.likely(0, -1), NO_NUMBER);
        Due.is("likely(1, 0)", x.likely(1, 0), NO_NUMBER);
        Due.is("likely(-1, 1)", x.likely(-1, 1), NO_NUMBER);
    }

    private static void mean(String name, ThoughtBetterOf x, long above, long below) {
        Due.is(name + ": mean(0)", x.mean(0), above);
        Due.is(name + ": mean(1)", x.mean(1), below);
    }

    private static void promise26Mean() {
        mean("nobody", new ThoughtBetterOf(), 0, 1);
        mean("nobody, facts", chances("f0+500;", 3), 0, 1);
        mean("all of eight", Towns.of("p00000+100;".repeat(8)), 8, 1);
        mean("none", Towns.of("p00000-100;"), 0, 1);
        // 1 in 2, and 7 in 20
        mean("two", chances("f0+500;f0-400;p00000+000;p00000-200;", 5, 3), 17, 20);
        mean("two of the same", chances("f0+500;p00000-200;p00000-200;", 5), 1, 1);
        mean("more than 1", chances("f0+500;p00000-200;p00000-200;p00000+100;", 7), 12, 5);
        ThoughtBetterOf x = Towns.of("p00000+100;");
        Due.is("mean(2)", x.mean(2), NO_NUMBER);
        Due.is("mean(-1)", x.mean(-1), NO_NUMBER);
    }

    private static void turn(String text, int set, int strength, int kase) {
        Due.is(text + " turn(" + set + ", 0)", Towns.of(text).turn(set, 0), strength);
        Due.is(text + " turn(" + set + ", 1)", Towns.of(text).turn(set, 1), kase);
    }

    private static void promise27Turn() {
        turn("p00000-400;", 1, 5, 0);
        turn("p00200-400;", 1, 5, 2);
        turn("k12;p00200-400;", 1, 5, 1);
        turn("k23;p00200-400;", 1, 5, 2);
        turn("d2;p00003-400;", 1, 11, 0);
        turn("p60000-400;", 1, 4, 0);
        turn("p60000+000;", 1, 1, 0);
        turn("p30000-100;", 1, -4, -4);
        turn("p00000+100;", 1, 0, -4);
        turn("p00000-100;", 0, 0, -4);
        turn("p00000-100;p00000+100;", 2, 0, -4);
        turn("p00000-100;p00000+100;", 3, 2, 0);
        turn("p00000+000;", 1, 1, 0);
        // the strongest: 60, of which 6 are left; one more is none
        turn("d9;p00006-500;", 1, 60, 0);
        turn("d9;p00006-600;", 1, -4, -4);
        // it can be sold but once
        turn("p00000-400;p00000-400;", 3, -4, -4);
        turn("p00000-400;p00100-400;", 3, -4, -4);
        turn("d0;p00100-100;p00001-500;", 2, 6, 0);
        turn("d0;p00000-100;p00001-500;", 2, -4, -4);
        turn("d0;p00000+900;p00001-500;", 3, 6, 0);
        // another plant is in the way, or there are 3
        turn("t0-200000;p00000-400;", 1, 21, 0);
        turn("t0-200900;p00000-499;", 1, 20, 0);
        turn("t3-010000;t3-010000;p00000-400;", 1, 5, 0);
        turn("t3-010000;t3-010000;t3-010000;p00000-400;", 1, -4, -4);
        turn("t3-010000;t3-010000;t3-010000;p00000+400;", 1, 0, -4);
        turn("t3-010000;t3-010000;t3-010000;p00000-400;", 0, 0, -4);
        ThoughtBetterOf x = Towns.of("p00000-400;p00000+400;");
        Due.is("turn(4, 0)", x.turn(4, 0), -1);
        Due.is("turn(6, 1)", x.turn(6, 1), -1);
        Due.is("turn(-1, 0)", x.turn(-1, 0), -1);
        Due.is("turn(1, 2)", x.turn(1, 2), -1);
        Due.is("turn(1, -1)", x.turn(1, -1), -1);
        Due.is("no plant is left behind", x.count(2), 0);
    }

    private static void promise28Guard() {
        // 20 less 5 for each FADE are left, own is 3
        Due.is("20 at 0, due at 5", Towns.of("t0+200000;p00005-300;").guard(1), 4);
        Due.is("18 at 0, due at 5", Towns.of("t0+180000;p00005-300;").guard(1), 3);
        Due.is("due when it comes", Towns.of("t0+200005;p00005-300;").guard(1), -4);
        Due.is("it says the same", Towns.of("t0-200005;p00005-300;").guard(1), 0);
        Due.is("nobody is told", Towns.of("t0+200005;p00005-300;").guard(0), 0);
        Due.is("another is told", Towns.of("t0+200005;p00005-300;p00105-300;").guard(2), 0);
        Due.is("both are told", Towns.of("t0+200005;p00005-300;p00105-300;").guard(3), -4);
        Due.is("just by the greatest", Towns.of("t0+190002;p00004-100;").guard(1), 9);
        Due.is("no plants", Towns.of(SALE).guard(3), 0);
        // each FADE is held against the same FADE without plants, not against that of now
        Due.is("no plants, other by now", Towns.of("d9;o10;f0+509;p00008-320;p00012-510;").guard(2), 0);
        ThoughtBetterOf x = Towns.of("d7;t0+200000;p00005-300;");
        Due.is("guard(1)", x.guard(1), 4);
        Due.is("guard(2)", x.guard(2), -1);
        Due.is("guard(-1)", x.guard(-1), -1);
        Due.is("FADE is as it was", x.count(4), 7);
        Due.is("plants are as they were", x.count(2), 1);
    }

    private static void promise29Law() {
        ThoughtBetterOf x = Towns.of("o10;d2;f0+509;p00008-320;p00012-510;");
        int[] due = {1, 0, 0, 0, 0, 0, 0, 0, 0, 0};
        for (int fade = 0; fade < 10; fade++) {
            Due.is("law(" + fade + ")", x.law(fade), due[fade]);
        }
        x.set(1, 0);
        Due.is("law(0), as it is", x.law(0), 0);
        Due.is("law(1)", x.law(1), 1);
        Due.is("law(10)", x.law(10), -1);
        Due.is("law(-1)", x.law(-1), -1);
        Due.is("FADE is as it was", x.count(4), 0);
        Due.is("two are other ones",
                Towns.of("d0;t0+050000;t1-050000;p00001-199;p00101+199;p00001+999;").law(9), 2);
        Due.is("undecided is another one", Towns.of("d0;t0+050000;p00001+099;").law(9), 1);
    }

    private static void promise30BestRate() {
        Due.is("the dearest", Towns.of(SALE).bestRate(), 9);
        ThoughtBetterOf poor = Towns.of(SALE);
        poor.coins(1, 3);
        Due.is("3 are paid with 5 and 6", poor.bestRate(), 5);
        poor.coins(1, 1);
        Due.is("1 is paid with 1 and 2", poor.bestRate(), 1);
        poor.coins(1, 2);
        Due.is("2 are paid with 3 and 4", poor.bestRate(), 3);
        Due.is("RATE is as it was", poor.count(5), 4);
        Due.is("nothing is sold", Towns.of("p00000+100;r7;").bestRate(), 1);
        Due.is("plants' prices stay", Towns.of("t0+050300;p00000+003;").bestRate(), 1);
        // too poor for the thought from RATE 7 on, one pays the plant's price then
        String plant = "o10;d0;f0+509;p00008-320;p00010-503;";
        Due.is("3 for the thought", Towns.of(plant + "t0-010200;").bestRate(), 5);
        Due.is("3 for either", Towns.of(plant + "t0-010300;").bestRate(), 5);
        Due.is("what is paid for the plant's counts", Towns.of("o10;d0;f0+509;p00008-320;p00010-504;t0-010400;")
                .bestRate(), 7);
        Due.is("the plant's is the dearest", Towns.of("o10;d0;f0+509;p60008-320;p00010-501;t0-010100;")
                .bestRate(), 3);
    }

    private static void promise31BestOpen() {
        String facts = "f0+509;f0-912;";
        Due.is("from 12 on none", Towns.of(facts + "p00008-320;").bestOpen(), 12);
        Due.is("nobody regrets", Towns.of("p00008-320;").bestOpen(), 0);
        Due.is("all regret with each", Towns.of("f0+509;p00008-320;").bestOpen(), 0);
        Due.is("1 at 9, 2 from 10 to 14, 1 later",
                Towns.of("f0+509;f1+510;f1-915;p00008-320;p00108-320;").bestOpen(), 0);
        ThoughtBetterOf x = Towns.of("o05;f0+509;f1+512;f0-912;p00008-320;p00108-320;");
        Due.is("one in any case", x.bestOpen(), 0);
        x.leaves(1);
        Due.is("none from 12 on", x.bestOpen(), 12);
        Due.is("OPEN is as it was", x.count(3), 5);
        Due.is("all eight until 11, seven from 12 on",
                Towns.of("f0+509;f1+509;f1-912;p00108-320;" + "p00008-320;".repeat(7)).bestOpen(), 12);
        Due.is("just at the last", Towns.of("f0+509;f0-923;p00008-320;").bestOpen(), 23);
    }

    private static void promise32Purse() {
        Due.is("a plant's price", Towns.of("t0+050700;p00000-300;").purse(0), 7);
        Due.is("its price is the most", Towns.of("t0+059900;p00000-300;").purse(0), 99);
        Due.is("nothing to buy", Towns.of("p00000-399;").purse(0), 0);
        Due.is("the same side", Towns.of("t0-050700;p00000-300;").purse(0), 0);
        Due.is("poor as the rich", Towns.of("t0+050700;t0-062000;p00000-300;").purse(0), 0);
        Due.is("one's thought", Towns.of(SALE).purse(1), 2);
        Due.is("the seller", Towns.of(SALE).purse(0), 0);
        ThoughtBetterOf x = Towns.of("t0+050700;p00000-305;");
        Due.is("purse(0)", x.purse(0), 7);
        Due.is("purse(1)", x.purse(1), -1);
        Due.is("purse(-1)", x.purse(-1), -1);
        Due.is("COINS are as they were", x.count(6), 5);
    }

    private static void promise33Two() {
        ThoughtBetterOf x = Towns.of(SALE);
        // 1 keeps its coins if it waits; 0 sells to it only if both do not
        Due.is("two(0, 1)", x.two(0, 1), 1);
        Due.is("two(1, 0)", x.two(1, 0), 10);
        Due.is("two(0, 0)", x.two(0, 0), -1);
        Due.is("two(2, 0)", x.two(2, 0), -1);
        Due.is("two(0, 2)", x.two(0, 2), -1);
        Due.is("two(-1, 0)", x.two(-1, 0), -1);
        Due.is("two(0, -1)", x.two(0, -1), -1);
        Due.is("hours are as they were", x.person(0, 3) + 100 * x.person(1, 3), 1008);
        // whoever chooses first buys the plant's thought; 1 sells its second one then, and 0 would rather not buy that
        Due.is("none", Towns.of("o01;d1;r3;t0-120207;p51008-533;p43007+411;").two(0, 1), -4);
        Due.is("none", Towns.of("o01;d1;r3;t0-120207;p51008-533;p43007+411;").two(1, 0), -4);
        Due.is("none has a reason", Towns.of("p00000+000;p00000+000;").two(0, 1), 0);
        // at 22 one pays 9, at 23 nothing is left; 24 is no hour
        Due.is("to the end", Towns.of("d9;t0+090922;p00022+009;p00022+900;").two(0, 1), 10);
        Due.is("23 at most", Towns.of("d9;t0+090923;p00023+009;p00022+900;").two(0, 1), 0);
        // a bride told 12 or later chooses at 12 in any case
        Due.is("a bride can't wait", Towns.of("d9;t0+090912;p10012+009;p00022+900;").two(0, 1), 0);
        Due.is("a plain one can", Towns.of("d9;t0+090912;p00012+009;p00022+900;").two(0, 1), 10);
        // two plants at 5 and 6 to be paid for by whoever comes first: both wait
        Due.is("both wait", Towns.of("d9;t0+090905;t0+090906;p00005+009;p00005+009;").two(0, 1), 22);
    }

    private static void promise34Without() {
        Due.is("three of four", Towns.of(CHAIN).without(), 3);
        Due.is("one of two", Towns.of(SALE).without(), 1);
        Due.is("bought the same", Towns.of("t0+090000;p00000+199;").without(), 0);
        Due.is("undecided without", Towns.of("t0+090000;p00000+099;").without(), 1);
        Due.is("plants are not bought, too", Towns.of("t0-090000;p00000+199;").without(), 1);
        Due.is("two of eight", Towns.of("t0+050700;t0+050700;" + "p00000+009;".repeat(8)).without(), 2);
        Due.is("nobody", new ThoughtBetterOf().without(), 0);
    }

    private static void again(String text, int first, int ahead) {
        Due.is(text + " again(0)", Towns.of(text).again(0), first);
        Due.is(text + " again(1)", Towns.of(text).again(1), ahead);
    }

    private static void promise35Again() {
        // -3, -2, -1, 0 (undecided), 1, and 1 again
        again("o10;f0+509;p00008-320;", 5, 4);
        again("o10;f0-509;p00008+320;", 5, 4);
        again("p00008-320;", 1, 0);
        Due.is("again(0) of nobody", new ThoughtBetterOf().again(0), 1);
        // held at 9: 8, 9, 9
        again("f0-900;f0-900;f0+909;f0+909;f0+909;p00008+800;", 2, 1);
        again("f0+900;f0+900;f0-909;f0-909;f0-909;p00008-800;", 2, 1);
        again("f0-900;f0-900;f0+909;f0+909;f0+909;p00008+900;", 1, 0);
        // bought no against its mood: up until it does not buy any more, from 2 to 5
        again("o10;t0-050000;p00000+200;", 4, 3);
        // a king's mood does not move what it thinks: it regrets until it is held
        again("o10;f0+509;p50008-900;", 19, 18);
        // one after the other buys the plant's thought until its mood is too bad for that: 18, 18 and 3 days
        again("d0;f0-900;f0-100;t0+190000;p00005+900;p00005+900;p00005-600;", 40, 39);
        again("d0;f0-900;f0-100;t0+190000;p00005+900;p00005+900;p00005-500;", -4, -4);
        ThoughtBetterOf x = Towns.of("o10;f0+509;p00008-320;");
        Due.is("again(2)", x.again(2), -1);
        Due.is("again(-1)", x.again(-1), -1);
        x.again(0);
        Due.is("its mood is as it was", x.person(0, 6), 6);
    }
}
