/** Promises 16 to 21: a day. */
public final class DayTest {
    /** 0 chooses no at 8, regrets when the fact is known, sells to 1, which is undecided at 10. */
    private static final String SALE = "o10;d2;f0+509;p00008-320;p00010-510;";
    /** A plant's thought turns 0, which sells its second one to 1, which sells its own to 2; 3 finds nothing. */
    private static final String CHAIN = "o00;d0;t0-050000;p00001+209;p00002-109;p00003+009;p00004+309;";

    private DayTest() {
    }

    public static void main(String[] args) {
        promise16Sale();
        promise16SellersByKind();
        promise16BuyersByKind();
        promise16CoinsAndOrder();
        promise16Kin();
        promise16Hours();
        promise16Fading();
        promise16Refusals();
        promise17Sum();
        promise18Sums();
        promise19Market();
        promise20And21Chains();
        Due.end("DayTest");
    }

    private static void fates(String text, int p, int... due) {
        ThoughtBetterOf x = Towns.of(text);
        for (int what = 0; what < due.length; what++) {
            Due.is(text + " fate(" + p + ", " + what + ")", x.fate(p, what), due[what]);
        }
    }

    private static void choice(String text, int p, int due) {
        Due.is(text + " fate(" + p + ", 0)", Towns.of(text).fate(p, 0), due);
    }

    private static void promise16Sale() {
        fates(SALE, 0, 2, 3, -4, -4, 22, 1, 10, 2, 1);
        fates(SALE, 1, 1, 0, 0, 2, 8, 0, -4, -4, -4);
        fates(CHAIN, 0, 2, 2, 8, 0, 11, 1, 2, 2, 1);
        fates(CHAIN, 1, 1, 1, 0, 2, 8, 1, 3, 1, 2);
        fates(CHAIN, 2, 2, 0, 1, 1, 8, 0, -4, -4, -4);
        fates(CHAIN, 3, 1, 3, -4, -4, 9, 0, -4, -4, -4);
        // coins may go beyond 99
        fates("o10;d2;f0+509;p00008-399;p00010-510;", 0, 2, 3, -4, -4, 101, 1, 10, 2, 1);
    }

    private static void promise16SellersByKind() {
        String buyer = "p00012-520;";
        String head = "o10;d2;f0+509;";
        // FIRM: strength 2 and 3; 1 an hour less than FADE; 3 left at 12
        fates(head + "p23008-320;" + buyer, 0, 2, 6, -4, -4, 23, 1, 10, 5, 1);
        fates(head + "p23008-320;" + buyer, 1, 1, 0, 0, 3, 17, 0, -4, -4, -4);
        // SWORN: twice that, 8 left
        fates(head + "p33008-320;" + buyer, 0, 2, 12, -4, -4, 28, 1, 10, 10, 1);
        fates(head + "p33008-320;" + buyer, 1, 1, 0, 0, 8, 12, 0, -4, -4, -4);
        // GENERAL: -3 and twice 5; 3 left at 12
        fates(head + "p40008-320;" + buyer, 0, 2, 3, -4, -4, 23, 1, 10, 7, 1);
        // KING: undecided first, 10 then; 6 left at 12
        fates(head + "p50008-320;" + buyer, 0, 0, 0, -4, -4, 26, 1, 10, 10, 1);
        // DRUNK: twice -2, then 1; with FADE 2 gone after an hour
        fates(head + "p70008-220;" + buyer, 0, 2, 4, -4, -4, 20, 1, 10, 1, -4);
        // without FADE one is left; half of its price less 1 is nothing: given away
        fates("o10;d0;f0+509;p70008-220;" + buyer, 0, 2, 4, -4, -4, 20, 1, 10, 1, 1);
        fates("o10;d0;f0+509;p70008-220;" + buyer, 1, 1, 0, 0, 0, 20, 0, -4, -4, -4);
        // DRUNK fades by twice FADE: 5 at 10, 3 left at 11, 1 at 12
        fates("o10;d1;f0+909;p70008-220;" + buyer.replace("-5", "-9"), 0, 2, 4, -4, -4, 20, 1, 10, 5, 1);
        fates("o10;d1;f0+909;p70008-220;p00011-920;", 0, 2, 4, -4, -4, 20, 1, 10, 5, 1);
        // CHILD: 2 of strength, a price of 1
        fates("o10;d0;f0+509;p60008-320;" + buyer, 0, 2, 3, -4, -4, 21, 1, 10, 2, 1);
        fates("o10;d0;r9;f0+509;p60008-320;" + buyer, 1, 1, 0, 0, 2, 18, 0, -4, -4, -4);
        // FIRM without FADE does not grow stronger
        fates("o10;d0;f0+509;p20008-320;" + buyer, 1, 1, 0, 0, 2, 18, 0, -4, -4, -4);
        // BRIDE: told 20, chooses at 12; what is known at 13 comes too late
        fates("o00;d0;f0+512;f0-913;p10020-320;", 0, 1, 2, -4, -4, 20, 1, 13, 7, -4);
    }

    private static void promise16BuyersByKind() {
        String plant = "d0;t0-050000;";
        choice(plant + "p00005+500;", 0, 1);
        choice(plant + "p00005+400;", 0, 2);
        choice(plant + "p10005+500;", 0, 1);
        choice(plant + "p10005+400;", 0, 2);
        choice(plant + "p60005+500;", 0, 2);
        choice(plant + "p60005+600;", 0, 1);
        choice(plant + "p70005+200;", 0, 2);
        choice(plant + "p70005+300;", 0, 1);
        choice(plant + "p21005+400;", 0, 1);
        choice(plant + "p20005+400;", 0, 2);
        choice(plant + "p21005+300;", 0, 2);
        choice(plant + "p24005+000;", 0, 2);
        choice(plant + "p25005+000;", 0, 0);
        choice(plant + "p30005+000;", 0, 0);
        choice(plant + "p30005+100;", 0, 1);
        choice(plant + "p40005+400;", 0, 2);
        choice(plant + "p50005+900;", 0, 2);
        choice(plant + "f0+300;p40005-200;", 0, 2);
        choice(plant + "f0+300;p40005-100;", 0, 1);
        choice(plant + "f0+300;p50005-900;", 0, 1);
        // DRUNK may sell as much as is left, too, and CHILDREN take a side they have
        fates("d0;t0+050000;p60005+500;", 0, 1, 5, 8, 0, 0, 0, -4, -4, -4);
        fates("d0;t0+050000;p00005+500;", 0, 1, 5, -4, -4, 0, 0, -4, -4, -4);
    }

    private static void promise16CoinsAndOrder() {
        fates("d0;t0-050700;p00005+107;", 0, 2, 1, 8, 7, 0, 1, 15, 1, -4);
        fates("d0;t0-050700;p00005+106;", 0, 1, 1, -4, -4, 6, 0, -4, -4, -4);
        // most left, then the cheapest, then by numbers
        fates("d0;t0-050000;t0-060900;p00005+199;", 0, 2, 1, 9, 9, 90);
        fates("d0;t0-060900;t0-050000;p00005+199;", 0, 2, 1, 8, 9, 90);
        fates("d0;t0-060900;t0-050000;p00005+108;", 0, 2, 1, 9, 0, 8);
        fates("d0;t0-050300;t0-050200;t0-050200;p00005+199;", 0, 2, 1, 9, 2, 97);
        fates("d0;t0-050300;t0-050300;t0-050300;p00005+199;", 0, 2, 1, 8, 3, 96);
        // what is left counts, not what it was
        fates("d1;t0-090000;t0-060003;t0-070003;p00005+199;", 0, 2, 1, 10, 0, 99);
        // PEOPLE's ahead of PLANTS', of PEOPLE by numbers; a sold one is gone
        String people = "o10;d0;f0+509;p00008-320;p00008-330;p00010-510;p00010-510;";
        fates(people, 2, 1, 0, 0, 2, 8);
        fates(people, 3, 1, 0, 1, 2, 8);
        fates(people, 0, 2, 3, -4, -4, 22, 1, 10, 2, 2);
        fates(people, 1, 2, 3, -4, -4, 32, 1, 10, 2, 3);
        fates("o10;d0;f0+509;t0-020200;p00008-320;p00010-510;", 1, 1, 0, 0, 2, 8);
        fates("o10;d0;f0+509;t0-020100;p00008-320;p00010-510;", 1, 2, 0, 8, 1, 9);
        fates("o10;d0;f0+509;t0-030900;p00008-320;p00010-510;", 1, 2, 0, 8, 9, 1);
        // of one hour by numbers, of several the earlier ahead
        fates("d0;t0-050000;p00005+199;p00005+199;", 0, 2, 1, 8, 0, 99);
        fates("d0;t0-050000;p00005+199;p00005+199;", 1, 1, 1, -4, -4, 99);
        fates("d0;t0-050000;p00006+199;p00005+199;", 0, 1, 1, -4, -4, 99);
        fates("d0;t0-050000;p00006+199;p00005+199;", 1, 2, 1, 8, 0, 99);
    }

    private static void promise16Kin() {
        choice("d0;t1-050000;p00005+199;", 0, 1);
        choice("d0;k01;t1-050000;p00005+199;", 0, 2);
        choice("d0;k10;t1-050000;p00005+199;", 0, 2);
        choice("d0;k01;k10;t1-050000;p00005+199;", 0, 1);
        choice("d0;k01;k12;t2-050000;p00005+199;", 0, 1);
        choice("d0;k01;k12;t1-050000;p00205+199;", 0, 2);
        choice("d0;t3-050000;p00305+199;", 0, 2);
        // KIN's thoughts are bought, KIN's facts do not weigh
        fates("o00;d0;k01;f1-900;f0+400;p00005+099;", 0, 1, 4, -4, -4, 99);
        fates("o10;d2;k12;f1+509;p00108-320;p00210+010;", 1, 1, 0, 0, 2, 8);
        fates("o10;d2;f1+509;p00108-320;p00210+010;", 1, 0, 0, -4, -4, 10);
    }

    private static void promise16Hours() {
        // OPEN or the hour behind DUE, whichever is later; what is known just then
        fates("o15;d2;f0+509;p00008-320;", 0, 2, 3, -4, -4, 20, 1, 15, 2, -4);
        fates("o09;d2;f0+509;p00008-320;", 0, 2, 3, -4, -4, 20, 1, 9, 2, -4);
        fates("o08;d2;f0+509;p00008-320;", 0, 2, 3, -4, -4, 20, 1, 9, 2, -4);
        fates("o00;d2;f0+509;p00008-320;", 0, 2, 3, -4, -4, 20, 1, 9, 2, -4);
        fates("o00;d2;f0+510;p00008-320;", 0, 2, 3, -4, -4, 20, 0, -4, -4, -4);
        fates("o00;d2;f0+508;p00008-320;", 0, 1, 2, -4, -4, 20, 0, -4, -4, -4);
        fates("o23;d2;f0+523;p00022-320;", 0, 2, 3, -4, -4, 20, 1, 23, 2, -4);
        fates("o23;d2;t0-050023;p00023+320;", 0, 2, 3, 8, 0, 20, 0, -4, -4, -4);
        // a second thought of no side, one of the same side, one of the side that was not chosen
        fates("o00;d0;f0+309;p00008-320;", 0, 2, 3, -4, -4, 20, 0, -4, -4, -4);
        fates("o00;d0;f0+209;p00008-320;", 0, 2, 3, -4, -4, 20, 0, -4, -4, -4);
        fates("o00;d0;f0-209;p00008+020;", 0, 0, 0, -4, -4, 20, 1, 9, 2, -4);
        fates("o00;d0;t0-090008;p00008+320;", 0, 2, 3, 8, 0, 20, 1, 9, 3, -4);
        fates("o00;d0;t0+090008;p00008+320;", 0, 1, 3, 8, 0, 20, 0, -4, -4, -4);
        // for sale and due in the same hour
        choice("d9;t0-050005;p00005+100;", 0, 2);
        choice("d9;t0-050006;p00005+100;", 0, 1);
    }

    private static void promise16Fading() {
        choice("d1;t0-050000;p00004+000;", 0, 2);
        choice("d1;t0-050000;p00005+000;", 0, 0);
        choice("d1;t0-050000;p60005+000;", 0, 0);
        choice("d1;t0-050000;p60004+100;", 0, 2);
        choice("d9;t0-600000;p00006+500;", 0, 2);
        choice("d9;t0-600000;p00006+600;", 0, 1);
        choice("d9;t0-600000;p00007+000;", 0, 0);
        choice("d0;t0-010000;p00023+000;", 0, 2);
        choice("d2;t0-070003;p00005+200;", 0, 2);
        choice("d2;t0-070003;p00005+300;", 0, 1);
    }

    private static void promise16Refusals() {
        ThoughtBetterOf x = Towns.of(SALE);
        Due.is("fate(0, 9)", x.fate(0, 9), -1);
        Due.is("fate(0, -1)", x.fate(0, -1), -1);
        Due.is("fate(2, 0)", x.fate(2, 0), -1);
        Due.is("fate(-1, 0)", x.fate(-1, 0), -1);
    }

    private static void promise17Sum() {
        ThoughtBetterOf x = Towns.of("f0+509;f0-210;f1+700;p00009-300;p00010-300;p00008-300;p40010-300;p70010-300;"
                + "p50010-300;p10020-300;p00110-300;");
        int[] due = {2, 0, -3, 3, -3, 6, 0, 4};
        for (int p = 0; p < due.length; p++) {
            Due.is("sum(" + p + ")", x.sum(p), due[p]);
        }
        Due.is("sum(8)", x.sum(8), -1000000001);
        Due.is("sum(-1)", x.sum(-1), -1000000001);
        Due.is("sum, not changed by what is bought", Towns.of("d0;t0-050000;p00005+499;").sum(0), 4);
    }

    private static void promise18Sums() {
        int[][] due = {{1, 1, 0, 1, 2, 1}, {2, 2, 0, 3, 3, 2}};
        ThoughtBetterOf[] towns = {Towns.of(SALE), Towns.of(CHAIN)};
        for (int i = 0; i < 2; i++) {
            for (int what = 0; what < 6; what++) {
                Due.is("town " + i + " sums(" + what + ")", towns[i].sums(what), due[i][what]);
            }
        }
        ThoughtBetterOf x = Towns.of("p00005+000;p00005+000;p00005-100;d0;t0+050900;p30005+009;");
        Due.is("sums(2)", x.sums(2), 3);
        Due.is("sums(4)", x.sums(4), 0);
        x.coins(1, 9);
        Due.is("sums(0)", x.sums(0), 1);
        Due.is("sums(1)", x.sums(1), 1);
        Due.is("sums(2)", x.sums(2), 2);
        Due.is("sums(3)", x.sums(3), 1);
        Due.is("sums(4), a plant's price", x.sums(4), 9);
        Due.is("sums(4), the first pays", Towns.of("t0+050700;p00000+009;p00000+009;").sums(4), 7);
        ThoughtBetterOf y = Towns.of("o12;f0-912;t0+050700;t0+050700;" + "p00000+009;".repeat(8));
        int[] eight = {2, 0, 6, 2, 14, 8};
        for (int what = 0; what < eight.length; what++) {
            Due.is("eight, sums(" + what + ")", y.sums(what), eight[what]);
        }
        Due.is("sums(6)", x.sums(6), -1);
        Due.is("sums(-1)", x.sums(-1), -1);
    }

    private static void promise19Market() {
        ThoughtBetterOf x = Towns.of(CHAIN);
        int[] sold = {256, 0, 0, 0, 0};
        for (int hour = 0; hour < sold.length; hour++) {
            Due.is("market(" + hour + ")", x.market(hour), sold[hour]);
        }
        x.leaves(2);
        Due.is("market(2)", x.market(2), 0);
        Due.is("market(3)", x.market(3), 2);
        Due.is("market(23)", x.market(23), 2);
        ThoughtBetterOf y = Towns.of("o10;d2;f0+509;t3+050307;t3-040101;t3-609923;p00008-320;p00008-520;p23008-320;");
        // 0: 2 at 10; 2: 5 at 10, 1 less each hour; plants 5 at 7, 4 at 1, 60 at 23
        int[] due = {0, 512, 512, 0, 0, 0, 0, 256, 256, 256, 5, 4, 4, 4, 4, 0};
        for (int hour = 0; hour < due.length; hour++) {
            Due.is("market(" + hour + ")", y.market(hour), due[hour]);
        }
        Due.is("market(22)", y.market(22), 0);
        Due.is("market(23)", y.market(23), 1024);
        Due.is("market(24)", y.market(24), -1);
        Due.is("market(-1)", y.market(-1), -1);
    }

    private static void promise20And21Chains() {
        ThoughtBetterOf x = Towns.of(CHAIN);
        int[] due = {1, 2, 3, 0};
        for (int p = 0; p < due.length; p++) {
            Due.is("chain(" + p + ")", x.chain(p), due[p]);
        }
        Due.is("chain(4)", x.chain(4), -1);
        Due.is("chain(-1)", x.chain(-1), -1);
        Due.is("longest()", x.longest(), 3);
        x.leaves(2);
        Due.is("longest()", x.longest(), 2);
        x.coins(1, 1);
        Due.is("chain(1), too poor", x.chain(1), 0);
        Due.is("longest()", x.longest(), 1);
        Due.is("a chain of people's alone", Towns.of(SALE).chain(1), 1);
        Due.is("its own", Towns.of(SALE).chain(0), 0);
        Due.is("longest() of nobody", new ThoughtBetterOf().longest(), 0);
        // seven sales, one behind the other; all of them by the same two thoughts
        StringBuilder eight = new StringBuilder("o00;d0;t0+090000;");
        for (int p = 0; p < 8; p++) {
            eight.append("p000").append("0").append(p).append(p % 2 == 0 ? "-" : "+").append(8 - p).append("99;");
        }
        ThoughtBetterOf y = Towns.of(eight.toString());
        for (int p = 0; p < 8; p++) {
            Due.is("chain(" + p + ") of eight", y.chain(p), p + 1);
        }
        Due.is("longest() of eight", y.longest(), 8);
    }
}
