/** Part III of the document's terms, shelves, THE IMAGE and REFUSALS: sentence by sentence. */
final class TermsOfShelves {
    private static final int NO_NUMBER = -1000000001;

    private TermsOfShelves() {
    }

    static void all() {
        shelves();
        rows();
        lowestBits();
        refusalsOfShelves();
        image();
        saidOnceMore();
        refusals();
        severalRefusals();
    }

    private static void shelves() {
        Said.so("SHELVES 0 .. 7 each hold nothing (at first), one of PEOPLE by its KIND, a ROW.");
        ThoughtBetterOf x = new ThoughtBetterOf();
        for (int d = 0; d < 8; d++) {
            Said.is("SHELF " + d + " at first, as one", x.cost(d), -11);
            Said.is("SHELF " + d + " at first, as a ROW", x.put(d, 0, 0), -11);
        }
        for (int d = 0; d < 8; d++) {
            x.keep(d, 1, d, 1);
        }
        int[] costs = {6, 18, 7, 14, 15, 16, 3, 2};
        for (int d = 0; d < 8; d++) {
            Said.is("one on SHELF " + d, x.cost(d), costs[d]);
            x.row(d, 2, 1);
            x.put(d, 0, d + 100);
        }
        for (int d = 0; d < 8; d++) {
            Said.is("a ROW on SHELF " + d, x.element(d, 0), d + 100);
            Said.is("nobody on SHELF " + d, x.cost(d), -12);
        }
        for (int d : new int[] {-1, 8, Integer.MAX_VALUE, Integer.MIN_VALUE}) {
            Said.is("keep on SHELF " + d, x.keep(d, 1, 0, 0), -1);
            Said.is("nothing on SHELF " + d, x.keep(d, 0, 0, 0), -1);
            Said.is("row on SHELF " + d, x.row(d, 0, 0), -1);
            Said.is("put on SHELF " + d, x.put(d, 0, 0), -1);
            Said.is("copy from SHELF " + d, x.copy(d, 0, 0, 0, 0), -1);
            Said.is("copy to SHELF " + d, x.copy(0, 0, d, 0, 0), -1);
            Said.is("cost on SHELF " + d, x.cost(d), -1);
            Said.is("toss on SHELF " + d, x.toss(d), -1);
            Said.is("town on SHELF " + d, x.town(d), -1);
            Said.is("comes from SHELF " + d, x.comes(d, 0, 0, 0, 0), -1);
            Said.is("explained by SHELF " + d, x.explained(d, 0), -1);
            Said.is("forged by SHELF " + d, x.forged(d), -1);
        }
    }

    private static void rows() {
        Said.so("A ROW has a SORT (0 bytes, 1 shorts, 2 ints) and 0 .. 100 elements, 0 at first;");
        ThoughtBetterOf x = new ThoughtBetterOf();
        for (int sort = 0; sort < 3; sort++) {
            for (int n : new int[] {0, 1, 99, 100}) {
                Said.is(n + " elements", x.row(0, sort, n), 0);
                Said.is("behind the last", x.put(0, n, 7), -13);
                Said.is("ahead of the first", x.put(0, -1, 7), -13);
                Said.is("the last", x.put(0, n - 1, 7), n == 0 ? -13 : 0);
            }
            Said.is("101 elements", x.row(0, sort, 101), -1);
            Said.is("the most elements", x.row(0, sort, Integer.MAX_VALUE), -1);
            Said.is("-1 elements", x.row(0, sort, -1), -14);
            Said.is("the least elements", x.row(0, sort, Integer.MIN_VALUE), -14);
            Said.is("the ROW is as it was", x.element(0, 99), 7);
            for (int i = 0; i < 100; i++) {
                x.put(0, i, -1);
            }
            x.row(0, sort, 5);
            x.row(1, sort, 100);
            Said.is("all of them", x.copy(0, 0, 1, 95, 5), 5);
            x.row(0, sort, 100);
            for (int i = 0; i < 100; i += 9) {
                Said.is("0 at first, " + i, x.element(0, i) + x.element(1, i), 0);
            }
            x = new ThoughtBetterOf();
        }
        Said.is("SORT -1", x.row(0, -1, 1), -1);
        Said.is("SORT 3", x.row(0, 3, 1), -1);
        Said.is("nothing is held", x.put(0, 0, 0), -11);
    }

    private static void lowestBits() {
        Said.so("what is put in keeps its lowest bits.");
        int[] values = {0, 127, 128, 255, 256, -1, -128, -129, -256, 32767, 32768, 65535, 65536, -32768, -32769, 70000,
            0x7fffffff, 0x80000000, 0x12345678};
        int[] bytes = {0, 127, -128, -1, 0, -1, -128, 127, 0, -1, 0, -1, 0, 0, -1, 112, -1, 0, 0x78};
        int[] shorts = {0, 127, 128, 255, 256, -1, -128, -129, -256, 32767, -32768, -1, 0, -32768, 32767, 4464, -1, 0,
            0x5678};
        ThoughtBetterOf x = new ThoughtBetterOf();
        for (int sort = 0; sort < 3; sort++) {
            x.row(sort, sort, 3);
            for (int i = 0; i < values.length; i++) {
                Said.is("put " + values[i], x.put(sort, 1, values[i]), 0);
                Said.is(values[i] + " in SORT " + sort, x.element(sort, 1),
                        sort == 0 ? bytes[i] : sort == 1 ? shorts[i] : values[i]);
                Said.is("the one ahead", x.element(sort, 0), 0);
                Said.is("the one behind", x.element(sort, 2), 0);
            }
        }
    }

    private static void refusalsOfShelves() {
        Said.so("Their REFUSALS: -11 nothing is held where something is wanted; -12 it is of another kind; -13 a place "
                + "that isn't there (a number or a size that isn't as told, too); -14 a size below 0; -15 a FAILURE "
                + "that is none.");
        ThoughtBetterOf x = Towns.of("p00000+000;");
        Towns.row(x, 0, 0, 1, 2);
        Towns.row(x, 1, 1, 1, 2);
        x.keep(2, 1, 6, 9);
        long[] nothing = {x.town(3), x.comes(3, 0, 0, 0, 0), x.explained(3, 0), x.forged(3), x.judge(0, 3),
            x.put(3, 0, 0), x.copy(3, 0, 0, 0, 0), x.copy(0, 0, 3, 0, 0), x.cost(3), x.toss(3)};
        for (int i = 0; i < nothing.length; i++) {
            Said.is("nothing, call " + i, nothing[i], -11);
        }
        long[] others = {x.town(2), x.town(1), x.comes(0, 0, 0, 0, 0), x.explained(2, 0), x.forged(2), x.judge(0, 2),
            x.put(2, 0, 0), x.copy(2, 0, 0, 0, 0), x.copy(0, 0, 2, 0, 0), x.copy(0, 0, 1, 0, 0), x.cost(0), x.toss(1)};
        for (int i = 0; i < others.length; i++) {
            Said.is("of another kind, call " + i, others[i], -12);
        }
        long[] places = {x.put(0, 2, 0), x.put(0, -1, 0), x.copy(0, 1, 0, 0, 2), x.copy(0, 0, 0, 1, 2),
            x.copy(0, 0, 0, 0, -1), x.copy(0, -1, 0, 0, 1), x.copy(0, 3, 0, 0, 0), x.explained(0, 0), x.forged(1)};
        for (int i = 0; i < places.length; i++) {
            Said.is("no such place, call " + i, places[i], -13);
        }
        Said.is("a size below 0", x.row(0, 0, -1), -14);
        Said.is("no FAILURE", x.toss(2), -15);
    }

    private static void image() {
        Said.so("THE IMAGE: all that there is, but SHELVES (and THE IMAGE); RESTORED all is as it was then.");
        ThoughtBetterOf x = Towns.of("o07;d3;r6;k13;f2-411;t3-214509;p71323-999;p12220+734;");
        x.chance(0, 4);
        Said.is("without one", x.restore(), -3);
        Said.is("how many", x.image(), 2);
        String then = Towns.told(x);
        Towns.tell(x, "o09;d4;r7;k01;k13;f0+901;t0+606000;p00000+000;");
        x.keep(Towns.TEXT_SHELF, 0, 0, 0);
        x.chance(0, 9);
        x.leaves(0);
        x.mood(0, 1);
        x.coins(0, 1);
        Said.that("all of it is another one", !Towns.told(x).equals(then));
        Said.is("RESTORED", x.restore(), 2);
        Said.is("as it was: " + then, Towns.told(x).compareTo(then), 0);
        x.leaves(0);
        x.leaves(0);
        Said.is("RESTORED once more", x.restore(), 2);
        Said.is("as it was: " + then, Towns.told(x).compareTo(then), 0);
        Said.so("when THE IMAGE is RESTORED, SHELVES stay as they are.");
        x = new ThoughtBetterOf();
        Towns.row(x, 0, 0, 5);
        x.keep(1, 1, 1, 1);
        x.image();
        x.put(0, 0, 6);
        x.keep(1, 0, 0, 0);
        x.keep(2, 1, 2, 2);
        x.row(3, 2, 1);
        x.restore();
        Said.is("what was put in", x.element(0, 0), 6);
        Said.is("one gone", x.cost(1), -11);
        Said.is("one come", x.cost(2), 8);
        Said.is("a ROW come", x.element(3, 0), 0);
    }

    private static void saidOnceMore() {
        Said.so("Said once more: of a KIND (or SORT) \"n more\", \"n less\" without more words is: than what the one "
                + "it is under has;");
        ThoughtBetterOf x = new ThoughtBetterOf();
        int[][] costs = {{6, 18, 6, 12, 15, 15, 3, 2}, {6, 18, 15, 30, 15, 24, 3, 2}};
        for (int kind = 0; kind < 8; kind++) {
            x.keep(kind, 1, kind, 0);
            Said.is("COST, FIGURE 0, KIND " + kind, x.cost(kind), costs[0][kind]);
            x.keep(kind, 1, kind, 9);
            Said.is("COST, FIGURE 9, KIND " + kind, x.cost(kind), costs[1][kind]);
        }
        Said.so("The ROW of a text, and what is taken from a SHELF, stay there;");
        Said.is("the text", Towns.tell(x, "d3;"), 1);
        Said.is("the text once more", x.town(Towns.TEXT_SHELF), 1);
        Said.is("its letter", x.element(Towns.TEXT_SHELF, 0), 'd');
        Said.is("its end", x.element(Towns.TEXT_SHELF, 2), ';');
        Said.is("a text with a FAULT", Towns.tell(x, "r0;"), -2000);
        Said.is("its letter", x.element(Towns.TEXT_SHELF, 0), 'r');
        Said.is("one comes", x.comes(3, 0, 0, 0, 0), 0);
        Said.is("one comes from there once more", x.comes(3, 0, 0, 0, 0), 1);
        Said.is("it stays", x.cost(3), 30);
        x.leaves(0);
        Said.is("it stays when one leaves", x.toss(3), 109);
    }

    private static void refusals() {
        Said.so("REFUSALS (answers; nothing changes): -1 no such one, a number out of its range; -2 there is no room; "
                + "-3 it is not as it must be; -4 none.");
        ThoughtBetterOf x = Towns.of("f0+101;".repeat(6) + "p00000+000;".repeat(8) + "t0+010000;".repeat(3));
        Said.is("no such one", x.leaves(8), -1);
        Said.is("no room for one", x.keep(0, 1, 0, 0) + x.comes(0, 0, 0, 0, 0), -2);
        Said.is("no room for a FACT", x.fact(0, 0, 0), -2);
        Said.is("no IMAGE", x.restore(), -3);
        Said.is("none", x.fate(7, 2), -4);
        Said.is("8 of PEOPLE", x.count(0), 8);
        Said.is("6 FACTS", x.count(1), 6);
        Said.is("3 PLANTS", x.count(2), 3);
    }

    private static void severalRefusals() {
        Said.so("Answers of several REFUSALS are the first one as they are told at the call.");
        ThoughtBetterOf x = Towns.of("p00000+000;".repeat(8) + "f0-100;".repeat(6) + "t0+010000;".repeat(3));
        x.row(0, 0, 9);
        x.keep(1, 1, 0, 0);
        x.row(2, 1, 1);
        long[][] answers = {
            {x.comes(3, 4, 0, 0, 0), -1}, {x.comes(0, 0, 24, 0, 0), -1}, {x.comes(1, 0, 0, 10, 0), -1},
            {x.comes(3, 0, 0, 0, 0), -11}, {x.comes(0, 0, 0, 0, 0), -12}, {x.comes(1, 0, 0, 0, 0), -2},
            {x.fact(4, 0, 0), -1}, {x.fact(0, 10, 0), -1}, {x.fact(0, 0, 24), -1}, {x.fact(0, 0, 0), -2},
            {x.turn(256, 0), -1}, {x.turn(255, 2), -1}, {x.turn(255, 0), -4},
            {x.explained(8, 2), -1}, {x.explained(3, 2), -1}, {x.explained(1, 2), -1}, {x.explained(0, 2), -1},
            {x.explained(0, 0), -13}, {x.judge(8, 3), -1}, {x.judge(8, 1), -1}, {x.judge(0, 3), -11},
            {x.row(8, 0, -1), -1}, {x.row(0, 3, -1), -1}, {x.row(0, 0, -1), -14},
            {x.keep(8, 2, 8, 10), -1}, {x.copy(3, 0, 8, 0, 0), -1}, {x.copy(8, 0, 3, 0, 0), -1},
            {x.copy(1, 0, 3, 0, 0), -11}, {x.copy(3, 0, 1, 0, 0), -11}, {x.copy(1, -1, 0, 0, 0), -12},
            {x.copy(0, -1, 1, 0, 0), -12}, {x.copy(0, 99, 2, 99, 99), -12}, {x.copy(0, 99, 0, 99, 99), -13},
            {x.put(3, -1, 0), -11}, {x.put(1, -1, 0), -12}, {x.put(8, -1, 0), -1}};
        for (int i = 0; i < answers.length; i++) {
            Said.is("call " + i, answers[i][0], answers[i][1]);
        }
        Said.so("Of weighs(), sum() -1 is -1000000001; of longs likewise.");
        Said.is("weighs", x.weighs(8, 0, 0), NO_NUMBER);
        Said.is("sum", x.sum(8), NO_NUMBER);
        Said.is("likely", x.likely(8, 0), NO_NUMBER);
        Said.is("likely, part 2", x.likely(0, 2), NO_NUMBER);
        Said.is("mean", x.mean(2), NO_NUMBER);
        Said.is("mean, part -1", x.mean(-1), NO_NUMBER);
    }
}
