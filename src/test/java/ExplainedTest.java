/** Promises 36 to 39: days explained, days by seeds. */
public final class ExplainedTest {
    /** 1 chooses yes with OPEN 10 and any FADE, and with OPEN 0 to 9 and FADE 0 or 1; it is undecided otherwise. */
    private static final String SALE = "o10;d2;f0+509;p00008-320;p00010-510;";
    private static final String BOTH_CASES = SALE + "f1+509;p00108-320;p00110-510;";
    private static final int[] LEAST = {-128, -32768, Integer.MIN_VALUE};

    private ExplainedTest() {
    }

    public static void main(String[] args) {
        promise36Explained();
        promise37Forged();
        promise36And37Refusals();
        promise38Judge();
        promise39Seeds();
        Due.end("ExplainedTest");
    }

    private static void explained(String text, int many, int least, int... told) {
        for (int sort = 0; sort < 3; sort++) {
            ThoughtBetterOf x = Towns.of(text);
            int[] row = told.clone();
            for (int i = 0; i < row.length; i++) {
                row[i] = row[i] < 0 ? LEAST[sort] : row[i];
            }
            Towns.row(x, 4, sort, row);
            Due.is("explained(4, 0) in sort " + sort, x.explained(4, 0), many);
            Due.is("explained(4, 1) in sort " + sort, x.explained(4, 1), least);
            Due.is("OPEN and FADE are as they were", x.count(3) + 100 * x.count(4), 210);
        }
    }

    private static void promise36Explained() {
        explained(SALE, 30, 0, 2, 1);
        explained(SALE, 30, 0, -1, 1);
        explained(SALE, 210, 11, 2, 0);
        explained(SALE, 210, 11, -1, 0);
        explained(SALE, 240, 0, 2);
        explained(SALE, 240, 0, -1, -1);
        explained(SALE, 240, 0);
        explained(SALE, 0, -4, 1, 1);
        explained(SALE, 0, -4, 2, 2);
        explained(SALE, 0, -4, 2, 3);
        explained(SALE, 0, -4, 3);
        // with p00011 in place of p00010: OPEN 11 with any FADE, 10 with FADE 0 and 1, 0 to 9 with FADE 0
        explained("o10;d2;f0+509;p00008-320;p00011-510;", 22, 0, 2, 1);
        // with p00013: the law of now is none of those that fit: OPEN 0 to 13 with 0, 12 and 13 with 1, 13 with 2 to 9
        explained("o10;d2;f0+509;p00008-320;p00013-510;p00113+010;t1+200013;", 14 + 2 + 8, 0, 2, 1, 1);
        // those of whom nothing is told do not matter
        explained("o10;d2;p00005+120;p00005+020;p00005+120;p00005-120;", 240, 0, 1);
        // a greater FADE alone explains it: with 8 nothing is left
        explained("o10;d2;t0+400000;p00005-320;", 24 * 2, 800, 2);
    }

    private static void forged(String text, int due, int... told) {
        for (int sort = 0; sort < 3; sort++) {
            ThoughtBetterOf x = Towns.of(text);
            int[] row = told.clone();
            for (int i = 0; i < row.length; i++) {
                row[i] = row[i] < 0 ? LEAST[sort] : row[i];
            }
            Towns.row(x, 4, sort, row);
            Due.is("forged(4) in sort " + sort, x.forged(4), due);
            Due.is("OPEN and FADE are as they were", x.count(3) + 100 * x.count(4), 210);
        }
    }

    private static void promise37Forged() {
        forged(SALE, -4, 2, 1);
        forged(SALE, -4, 2, 0);
        forged(SALE, -4);
        forged(SALE, 0, 1, 1);
        forged(SALE, 0, 7);
        forged(SALE, 1, 2, 2);
        forged(SALE, 1, -1, 2);
        forged(SALE, -4, -1, -1);
        // each is well by some law, but none by that of the others
        forged(BOTH_CASES, 3, 2, 1, 2, 0);
        forged(BOTH_CASES, 3, 2, 0, 2, 1);
        forged(BOTH_CASES, -4, 2, 1, 2, 1);
        forged(BOTH_CASES, -4, 2, -1, 2, 1);
        forged(BOTH_CASES, 2, 2, 0, 1, 1);
        // just one FADE explains it: 9; 0; just one OPEN: 23
        forged("o10;d2;t0+190002;p00004-109;", -4, 2);
        forged("o10;d2;t0+050000;p00005+009;", -4, 1);
        forged("o10;d2;f0+509;t1+050000;p00008-420;p00023-510;p00105+010;", -4, 2, 1, 0);
    }

    private static void promise36And37Refusals() {
        ThoughtBetterOf x = Towns.of(SALE);
        x.keep(0, 1, 0, 0);
        Towns.row(x, 1, 0, 2, 1, 0);
        Towns.row(x, 2, 2, 2, 1);
        Due.is("explained(2, 2)", x.explained(2, 2), -1);
        Due.is("explained(2, -1)", x.explained(2, -1), -1);
        Due.is("explained(-1, 0)", x.explained(-1, 0), -1);
        Due.is("explained(8, 0)", x.explained(8, 0), -1);
        Due.is("explained of nothing", x.explained(3, 0), -11);
        Due.is("explained of one", x.explained(0, 0), -12);
        Due.is("explained of too many", x.explained(1, 1), -13);
        Due.is("-1 ahead of -11", x.explained(3, 2), -1);
        Due.is("-1 ahead of -13", x.explained(1, 2), -1);
        Due.is("forged(-1)", x.forged(-1), -1);
        Due.is("forged(8)", x.forged(8), -1);
        Due.is("forged of nothing", x.forged(3), -11);
        Due.is("forged of one", x.forged(0), -12);
        Due.is("forged of too many", x.forged(1), -13);
        Towns.row(x, 1, 0, -128, -128, -128);
        Due.is("too many, though skipped", x.explained(1, 0), -13);
        Due.is("too many, though skipped", x.forged(1), -13);
        Due.is("nobody, nothing told", emptyRow().explained(0, 0), 240);
        Due.is("nobody, nothing told", emptyRow().forged(0), -4);
        Due.is("the row stays", x.element(2, 1), 1);
    }

    private static ThoughtBetterOf emptyRow() {
        ThoughtBetterOf x = new ThoughtBetterOf();
        x.row(0, 1, 0);
        return x;
    }

    private static int[] purse(int size, int first, int from, int later) {
        int[] told = new int[size];
        for (int hour = 0; hour < size; hour++) {
            told[hour] = hour < from ? first : later;
        }
        return told;
    }

    private static void judge(int p, int due, int sort, int... told) {
        ThoughtBetterOf x = Towns.of(SALE);
        Towns.row(x, 0, sort, told);
        Due.is("judge(" + p + ", 0) in sort " + sort, x.judge(p, 0), due);
    }

    private static void promise38Judge() {
        for (int sort = 0; sort < 3; sort++) {
            judge(0, -4, sort, purse(24, 20, 10, 22));
            judge(1, -4, sort, purse(24, 10, 10, 8));
            judge(0, 10, sort, purse(24, 20, 24, 0));
            judge(0, 9, sort, purse(24, 20, 9, 22));
            judge(0, 10, sort, purse(24, 20, 11, 22));
            judge(1, 9, sort, purse(24, 10, 9, 8));
            judge(1, 10, sort, purse(24, 10, 11, 8));
            judge(0, 0, sort, 22);
            judge(0, -4, sort);
            judge(0, 24, sort, purse(25, 20, 10, 22));
            judge(0, 24, sort, purse(100, 20, 10, 22));
            int[] skipping = purse(30, 20, 10, 22);
            skipping[5] = LEAST[sort];
            for (int hour = 24; hour < 30; hour++) {
                skipping[hour] = LEAST[sort];
            }
            judge(0, -4, sort, skipping);
            skipping[29] = 0;
            judge(0, 29, sort, skipping);
            skipping[6] = LEAST[sort] + 1;
            judge(0, 6, sort, skipping);
        }
        ThoughtBetterOf x = Towns.of(SALE);
        x.keep(0, 1, 0, 0);
        Towns.row(x, 1, 0, 20);
        Due.is("judge(2, 1)", x.judge(2, 1), -1);
        Due.is("judge(-1, 1)", x.judge(-1, 1), -1);
        Due.is("judge(0, 8)", x.judge(0, 8), -1);
        Due.is("judge(0, -1)", x.judge(0, -1), -1);
        Due.is("judge of nothing", x.judge(0, 2), -11);
        Due.is("judge of one", x.judge(0, 0), -12);
        Due.is("-1 ahead of -11", x.judge(2, 2), -1);
        // more than a byte can tell, and a plant's price that nobody gets
        Towns.row(x, 1, 0, 200);
        Due.is("bytes keep their lowest bits", x.judge(0, 1), 0);
        ThoughtBetterOf y = Towns.of("t0+050702;p00003+009;p00103+009;");
        Towns.row(y, 1, 0, 9, 9, 9, 2, 2);
        Due.is("paid at 3", y.judge(0, 1), -4);
        Due.is("not paid", y.judge(1, 1), 3);
    }

    private static void promise39Seeds() {
        // draws by seed 0 less 9: -9 8 4 -8 -7 8 0 -9 -9 3 -3 6 7 2 7 7 2 4 3 1
        ThoughtBetterOf x = Towns.of("p00000+000;");
        int[] yes = {0, 1, 2, 2, 2, 3, 3, 3, 3, 4, 4, 5, 6, 7, 8, 9, 10, 11, 12, 13};
        for (int n = 1; n <= 20; n++) {
            Due.is("seeds(" + n + ", 0, 0)", x.seeds(n, 0, 0), yes[n - 1]);
            Due.is("seeds(" + n + ", 0, 1)", x.seeds(n, 0, 1), 0);
        }
        Due.is("seeds(20, -7, 0)", x.seeds(20, -7, 0), 12);
        Due.is("seeds(20, most, 0)", x.seeds(20, Integer.MAX_VALUE, 0), 10);
        Due.is("seeds(20, least, 0)", x.seeds(20, Integer.MIN_VALUE, 0), 13);
        ThoughtBetterOf sold = Towns.of("t0+050000;p00000+000;");
        Due.is("sold by 0", sold.seeds(20, 0, 1), 9);
        Due.is("sold by -7", sold.seeds(20, -7, 1), 9);
        Due.is("yes by -7", sold.seeds(20, -7, 0), 17);
        Due.is("sold by most", sold.seeds(20, Integer.MAX_VALUE, 1), 11);
        Due.is("yes by most", sold.seeds(20, Integer.MAX_VALUE, 0), 14);
        // draws by seed 1 less 9: -5 -8, -4 7, -4 -6: 0 and 1 by turns; 0 buys with -4, 1 with none
        ThoughtBetterOf two = Towns.of("t0+050000;t1+050000;p00000+000;p00100+000;");
        Due.is("two, three days: yes", two.seeds(3, 1, 0), 3);
        Due.is("two, three days: sold", two.seeds(3, 1, 1), 2);
        Due.is("two, one day: yes", two.seeds(1, 1, 0), 0);
        Due.is("moods are as they were", two.person(0, 6) + two.person(1, 6), 18);
        Due.is("seeds(0, 0, 0)", x.seeds(0, 0, 0), -1);
        Due.is("seeds(21, 0, 0)", x.seeds(21, 0, 0), -1);
        Due.is("seeds(-1, 0, 0)", x.seeds(-1, 0, 0), -1);
        Due.is("seeds(1, 0, 2)", x.seeds(1, 0, 2), -1);
        Due.is("seeds(1, 0, -1)", x.seeds(1, 0, -1), -1);
    }
}
