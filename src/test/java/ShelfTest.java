/** Promises 40 to 49: the image, what is told, shelves. */
public final class ShelfTest {
    private static final int NO_SHELF = 1;
    private static final int NO_PLACE = 2;
    private static final int PEOPLE_KINDS = 8;

    private ShelfTest() {
    }

    public static void main(String[] args) {
        promise40And41Image();
        promise40And41Whole();
        promise42Count();
        promise43Keep();
        promise44Row();
        promise45Put();
        promise46Element();
        promise47Copy();
        promise47CopyRefusals();
        promise48Cost();
        promise49Toss();
        Due.end("ShelfTest");
    }

    private static void promise40And41Image() {
        ThoughtBetterOf x = Towns.of("p00000+105;p00000+106;");
        Due.is("restore() without an image", x.restore(), -3);
        Due.is("image()", x.image(), 2);
        x.leaves(0);
        Due.is("restore()", x.restore(), 2);
        Due.is("as it was", x.coins(0, 1), 5);
        Due.is("restore() once more", x.restore(), 2);
        Due.is("as it was once more", x.coins(0, 2), 5);
        Due.is("image() anew", x.image(), 2);
        x.coins(0, 3);
        Due.is("restore()", x.restore(), 2);
        Due.is("as it was anew", x.person(0, 5), 2);
        x.leaves(0);
        x.leaves(0);
        Due.is("image() of nobody", x.image(), 0);
        Towns.tell(x, "p00000+105;");
        Due.is("restore() of nobody", x.restore(), 0);
        Due.is("nobody", x.count(0), 0);
    }

    private static void promise40And41Whole() {
        String text = "o07;d3;r6;k13;f2-411;f1+512;t3-214509;p71323-999;p12220+734;";
        ThoughtBetterOf x = Towns.of(text);
        x.chance(1, 4);
        x.row(0, 2, 2);
        x.put(0, 1, 77);
        x.keep(1, 1, 5, 9);
        String before = told(x);
        Due.is("image()", x.image(), 2);
        Due.that("the image changes nothing", told(x).equals(before));
        x.put(0, 1, 78);
        x.keep(2, 1, 3, 3);
        x.keep(1, 0, 0, 0);
        Towns.tell(x, "o09;d4;r7;k01;k13;f0+901;t0+606000;p00000+000;p00000+000;");
        x.chance(0, 0);
        x.chance(1, 1);
        x.leaves(0);
        x.mood(0, 1);
        x.coins(0, 1);
        Due.that("all of it is another one", !told(x).equals(before));
        Due.is("restore()", x.restore(), 2);
        Due.that("all is as it was: " + told(x) + ", due is " + before, told(x).equals(before));
        Due.is("shelves stay: the row", x.element(0, 1), 78);
        Due.is("shelves stay: one gone", x.cost(1), -11);
        Due.is("shelves stay: one come", x.cost(2), 18);
        Due.is("facts come behind those", x.fact(0, 0, 0), 2);
        x.restore();
        Due.that("all is as it was once more", told(x).equals(before));
        // what was there in between must not shine through
        Due.is("plants come behind those", Towns.tell(x, "t1+010000;"), 1);
        Due.is("two plants", x.count(2), 2);
        Due.is("the plants for sale at 9", x.market(9), 256);
    }

    /** All that can be asked of what there is. */
    private static String told(ThoughtBetterOf x) {
        StringBuilder all = new StringBuilder();
        for (int what = 0; what < 8; what++) {
            all.append(x.count(what)).append(' ');
        }
        for (int p = 0; p < 8; p++) {
            for (int what = 0; what < 7; what++) {
                all.append(x.person(p, what)).append(' ');
            }
        }
        for (int f = 0; f < 6; f++) {
            for (int what = 0; what < 4; what++) {
                all.append(x.about(f, what)).append(' ');
            }
        }
        for (int hour = 0; hour < 24; hour++) {
            all.append(x.market(hour)).append(' ');
        }
        return all.append(x.kin(1, 3)).append(x.kin(1, 3)).append(x.purse(0)).toString();
    }

    private static void promise42Count() {
        ThoughtBetterOf x = Towns.of("o07;d3;r6;k13;k02;f2-411;f1+512;f1+512;t3-214509;"
                + "p71323-999;p12220+734;p12220+701;");
        int[] due = {3, 3, 1, 7, 3, 6, 134, 2};
        for (int what = 0; what < due.length; what++) {
            Due.is("count(" + what + ")", x.count(what), due[what]);
        }
        Due.is("count(8)", x.count(8), -1);
        Due.is("count(-1)", x.count(-1), -1);
        for (int a = 0; a < 4; a++) {
            for (int b = a + 1; b < 4; b++) {
                if (!(a == 1 && b == 3 || a == 0 && b == 2)) {
                    x.kin(b, a);
                }
            }
        }
        Due.is("count(7)", x.count(7), 6);
        x.leaves(0);
        Due.is("count(6)", x.count(6), 35);
        // what is paid in a day is of that day alone
        ThoughtBetterOf y = Towns.of("t0+050700;p00000+009;");
        y.sums(4);
        Due.is("count(6)", y.count(6), 9);
    }

    private static void promise43Keep() {
        ThoughtBetterOf x = new ThoughtBetterOf();
        for (int d = 0; d < 8; d++) {
            Due.is("keep", x.keep(d, 1, d, 9 - d), 0);
        }
        for (int d = 0; d < 8; d++) {
            Due.is("comes", x.comes(d, 0, 0, 0, 0), d);
            Due.is("its kind", x.person(d, 0), d);
            Due.is("its figure", x.person(d, 1), 9 - d);
        }
        int[][] wrong = {{-1, 1, 0, 0}, {8, 1, 0, 0}, {0, -1, 0, 0}, {0, 2, 0, 0}, {0, 1, -1, 0}, {0, 1, 8, 0},
            {0, 1, 0, -1}, {0, 1, 0, 10}, {-1, 0, 0, 0}, {8, 0, 0, 0}};
        for (int[] w : wrong) {
            Due.is("keep out of range", x.keep(w[0], w[1], w[2], w[3]), -1);
        }
        Due.is("nothing changes then", x.toss(0), 9);
        Due.is("keep nothing, whatever else is said", x.keep(0, 0, -5, 99), 0);
        Due.is("nothing is held", x.cost(0), -11);
        Due.is("keep nothing where nothing is", x.keep(0, 0, 0, 0), 0);
        x.row(1, 0, 5);
        Due.is("keep in place of a row", x.keep(1, 1, 4, 4), 0);
        Due.is("it is no row any more", x.put(1, 0, 0), -12);
    }

    private static void promise44Row() {
        ThoughtBetterOf x = new ThoughtBetterOf();
        for (int sort = 0; sort < 3; sort++) {
            Due.is("row(0, " + sort + ", 100)", x.row(0, sort, 100), 0);
            Due.is("the last place", x.put(0, 99, 1), 0);
            Due.is("the one behind it", x.put(0, 100, 1), -13);
            Due.is("row(0, " + sort + ", 0)", x.row(0, sort, 0), 0);
            Due.is("no place", x.put(0, 0, 1), -13);
            Due.is("row(0, " + sort + ", 3)", x.row(0, sort, 3), 0);
            x.put(0, 0, 9);
            x.put(0, 2, 9);
            x.row(0, sort, 100);
            for (int i = 0; i < 100; i++) {
                Due.is("elements are 0 at first", x.element(0, i), 0);
            }
        }
        Due.is("row(0, 0, 101)", x.row(0, 0, 101), -1);
        Due.is("row(0, 3, 1)", x.row(0, 3, 1), -1);
        Due.is("row(0, -1, 1)", x.row(0, -1, 1), -1);
        Due.is("row(-1, 0, 1)", x.row(-1, 0, 1), -1);
        Due.is("row(8, 0, 1)", x.row(8, 0, 1), -1);
        Due.is("row(0, 0, -1)", x.row(0, 0, -1), -14);
        Due.is("row(0, 0, least)", x.row(0, 0, Integer.MIN_VALUE), -14);
        Due.is("-1 ahead of -14: no such shelf", x.row(8, 0, -1), -1);
        Due.is("-1 ahead of -14: no such sort", x.row(0, 3, -1), -1);
        Due.is("the row is as it was", x.put(0, 99, 5), 0);
        x.keep(1, 1, 0, 5);
        Due.is("a row in place of one", x.row(1, 1, 1), 0);
        Due.is("it is nobody any more", x.cost(1), -12);
    }

    private static void element(ThoughtBetterOf x, int d, int i, long due) {
        Due.is("element(" + d + ", " + i + ")", x.element(d, i), due);
    }

    private static void promise45Put() {
        ThoughtBetterOf x = new ThoughtBetterOf();
        int[] values = {0, 127, 128, -128, -129, 255, 256, 32767, 32768, -32769, 65535, 65536, 70000,
            Integer.MAX_VALUE, Integer.MIN_VALUE, -1};
        for (int v : values) {
            x.row(0, 0, 3);
            x.row(1, 1, 3);
            x.row(2, 2, 3);
            for (int d = 0; d < 3; d++) {
                Due.is("put(" + d + ", 1, " + v + ")", x.put(d, 1, v), 0);
                element(x, d, 0, 0);
                element(x, d, 2, 0);
            }
            element(x, 0, 1, (byte) v);
            element(x, 1, 1, (short) v);
            element(x, 2, 1, v);
        }
        x.row(0, 0, 3);
        x.put(0, 0, 200);
        element(x, 0, 0, -56);
        x.keep(3, 1, 0, 1);
        Due.is("put(-1, 0, 0)", x.put(-1, 0, 0), -1);
        Due.is("put(8, 0, 0)", x.put(8, 0, 0), -1);
        Due.is("put(4, 0, 0)", x.put(4, 0, 0), -11);
        Due.is("put(3, 0, 0)", x.put(3, 0, 0), -12);
        Due.is("put(0, 3, 0)", x.put(0, 3, 0), -13);
        Due.is("put(0, -1, 0)", x.put(0, -1, 0), -13);
        Due.is("put(0, most, 0)", x.put(0, Integer.MAX_VALUE, 0), -13);
        Due.is("put(0, least, 0)", x.put(0, Integer.MIN_VALUE, 0), -13);
    }

    private static int thrownBy(ThoughtBetterOf x, int d, int i) {
        try {
            x.element(d, i);
            return 0;
        } catch (IllegalArgumentException e) {
            return NO_SHELF;
        } catch (IllegalStateException e) {
            return NO_PLACE;
        }
    }

    private static void promise46Element() {
        ThoughtBetterOf x = new ThoughtBetterOf();
        Towns.row(x, 0, 2, 5, -6, 7);
        x.keep(1, 1, 0, 1);
        element(x, 0, 0, 5);
        element(x, 0, 1, -6);
        element(x, 0, 2, 7);
        Due.is("element(-1, 0)", thrownBy(x, -1, 0), NO_SHELF);
        Due.is("element(8, 0)", thrownBy(x, 8, 0), NO_SHELF);
        Due.is("element(8, -1)", thrownBy(x, 8, -1), NO_SHELF);
        Due.is("element of nothing", thrownBy(x, 2, 0), NO_PLACE);
        Due.is("element of one", thrownBy(x, 1, 0), NO_PLACE);
        Due.is("element(0, 3)", thrownBy(x, 0, 3), NO_PLACE);
        Due.is("element(0, -1)", thrownBy(x, 0, -1), NO_PLACE);
        Due.is("element(0, least)", thrownBy(x, 0, Integer.MIN_VALUE), NO_PLACE);
        Due.is("element(0, 2)", thrownBy(x, 0, 2), 0);
    }

    private static void rowIs(ThoughtBetterOf x, int d, int... due) {
        for (int i = 0; i < due.length; i++) {
            element(x, d, i, due[i]);
        }
    }

    private static void promise47Copy() {
        for (int sort = 0; sort < 3; sort++) {
            ThoughtBetterOf x = new ThoughtBetterOf();
            Towns.row(x, 0, sort, 1, 2, 3, 4, 5);
            Towns.row(x, 1, sort, 11, 12, 13);
            Due.is("copy(0, 2, 1, 1, 2)", x.copy(0, 2, 1, 1, 2), 2);
            rowIs(x, 1, 11, 3, 4);
            rowIs(x, 0, 1, 2, 3, 4, 5);
            Due.is("copy(1, 0, 0, 0, 3)", x.copy(1, 0, 0, 0, 3), 3);
            rowIs(x, 0, 11, 3, 4, 4, 5);
            Towns.row(x, 0, sort, 1, 2, 3, 4, 5);
            Due.is("onto itself, up", x.copy(0, 0, 0, 1, 4), 4);
            rowIs(x, 0, 1, 1, 2, 3, 4);
            Due.is("onto itself, down", x.copy(0, 1, 0, 0, 4), 4);
            rowIs(x, 0, 1, 2, 3, 4, 4);
            Due.is("none", x.copy(0, 0, 1, 0, 0), 0);
            Due.is("none, behind the last", x.copy(0, 5, 1, 3, 0), 0);
            rowIs(x, 1, 11, 3, 4);
        }
    }

    private static void promise47CopyRefusals() {
        ThoughtBetterOf x = new ThoughtBetterOf();
        Towns.row(x, 0, 0, 1, 2, 3, 4, 5);
        Towns.row(x, 1, 0, 11, 12, 13);
        Towns.row(x, 2, 1, 11, 12, 13);
        x.keep(3, 1, 0, 1);
        int[][] calls = {{-1, 0, 0, 0, 0, -1}, {8, 0, 0, 0, 0, -1}, {0, 0, -1, 0, 0, -1}, {0, 0, 8, 0, 0, -1},
            {4, 0, 8, 0, 0, -1}, {4, 0, 0, 0, 1, -11}, {0, 0, 4, 0, 1, -11}, {3, 0, 4, 0, 1, -11},
            {4, 0, 3, 0, 1, -11}, {0, 0, 3, 0, 1, -12}, {3, 0, 0, 0, 1, -12}, {3, 0, 3, 0, 1, -12},
            {0, 0, 2, 0, 1, -12}, {2, 0, 0, 0, 1, -12}, {0, -9, 2, 0, 1, -12}, {0, 0, 1, 0, 4, -13},
            {0, 3, 1, 0, 3, -13}, {0, 0, 1, 1, 3, -13}, {0, -1, 1, 0, 1, -13}, {0, 0, 1, -1, 1, -13},
            {0, 0, 1, 0, -1, -13}, {0, 6, 1, 0, 0, -13}, {0, 0, 1, 4, 0, -13}, {0, 2147483647, 1, 0, 1, -13},
            {0, 1, 1, 0, 2147483647, -13}, {0, 0, 1, 2147483647, 2, -13}, {0, -2147483648, 1, 0, 1, -13},
            {0, 1, 1, 1, -2147483648, -13}, {0, 5, 1, 0, 1, -13}, {0, 0, 1, 3, 1, -13}};
        for (int[] c : calls) {
            Due.is("copy(" + c[0] + ", " + c[1] + ", " + c[2] + ", " + c[3] + ", " + c[4] + ")",
                    x.copy(c[0], c[1], c[2], c[3], c[4]), c[5]);
        }
        rowIs(x, 0, 1, 2, 3, 4, 5);
        rowIs(x, 1, 11, 12, 13);
    }

    private static void promise48Cost() {
        ThoughtBetterOf x = new ThoughtBetterOf();
        for (int figure = 0; figure < 10; figure++) {
            int[] due = {6, 18, 6 + figure, 12 + 2 * figure, 15, 15 + figure, 3, 2};
            for (int kind = 0; kind < PEOPLE_KINDS; kind++) {
                x.keep(0, 1, kind, figure);
                Due.is("cost of kind " + kind + ", figure " + figure, x.cost(0), due[kind]);
            }
        }
        x.row(1, 0, 1);
        Due.is("cost(-1)", x.cost(-1), -1);
        Due.is("cost(8)", x.cost(8), -1);
        Due.is("cost(2)", x.cost(2), -11);
        Due.is("cost(1)", x.cost(1), -12);
    }

    private static void promise49Toss() {
        ThoughtBetterOf x = new ThoughtBetterOf();
        for (int figure = 1; figure < 10; figure++) {
            int[] due = {figure, figure, 100 + figure, 100 + figure, figure, 215 + figure, -15, -15};
            for (int kind = 0; kind < PEOPLE_KINDS; kind++) {
                x.keep(0, 1, kind, figure);
                Due.is("toss of kind " + kind + ", figure " + figure, x.toss(0), due[kind]);
            }
        }
        for (int kind = 0; kind < PEOPLE_KINDS; kind++) {
            x.keep(0, 1, kind, 0);
            Due.is("toss of kind " + kind + ", figure 0", x.toss(0), -15);
        }
        x.row(1, 0, 1);
        Due.is("toss(-1)", x.toss(-1), -1);
        Due.is("toss(8)", x.toss(8), -1);
        Due.is("toss(2)", x.toss(2), -11);
        Due.is("toss(1)", x.toss(1), -12);
    }
}
