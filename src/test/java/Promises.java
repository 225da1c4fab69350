import java.lang.reflect.InvocationTargetException;
import java.lang.reflect.Method;
import java.util.Arrays;

/** Each promise's own words: what each number that is told may be just so, and what is refused, changing nothing. */
final class Promises {
    private static final int MOST = Integer.MAX_VALUE;
    private static final int LEAST = Integer.MIN_VALUE;
    private static final int NO_NUMBER = -1000000001;
    /** No such one of the three PEOPLE there are. */
    private static final int[] NOBODY = {-1, 3, 8, MOST, LEAST};
    private static final int[] NO_SHELF = {-1, 8, MOST, LEAST};
    /** SHELVES of the town: two texts with a FAULT, a KING, two shorts, four ints, nothing, three bytes. */
    private static final int FAULT_OF_BYTE = 0;
    private static final int FAULT_OF_STATEMENT = 7;
    private static final int KING = 1;
    private static final int TWO_SHORTS = 2;
    private static final int FOUR_INTS = 3;
    private static final int NOTHING = 4;
    private static final int THREE_BYTES = 5;

    private Promises() {
    }

    static void all() throws ReflectiveOperationException {
        Said.promise(1, "Nobody, no FACTS.");
        int[] atFirst = {0, 0, 0, 15, 1, 4, 0, 0, -1};
        for (int what = 0; what < atFirst.length; what++) {
            Said.is("count(" + what + ")", new ThoughtBetterOf().count(what), atFirst[what]);
        }
        ofTheTown();
        ofTheTownChanged();
        ofADay();
        ofWhatTurnsOne();
        ofDaysExplained();
        ofTheImage();
        ofShelves();
        ofRows();
        ofOneOnAShelf();
    }

    /** 3 of PEOPLE, 2 FACTS, a PLANT; the IMAGE has one less of each, but for the PLANT. */
    private static ThoughtBetterOf town() {
        ThoughtBetterOf x = new ThoughtBetterOf();
        Towns.tell(x, "o10;d2;k12;f0+509;t0-120003;p00008-320;p71110-510;");
        x.image();
        Towns.tell(x, "o09;d1;r5;k01;f1-411;p33009+350;");
        x.chance(0, 3);
        Towns.tell(x, "d3;r0;");
        Towns.row(x, FAULT_OF_BYTE, 0, 'd', '3', ';', '?');
        x.keep(KING, 1, 5, 9);
        Towns.row(x, TWO_SHORTS, 1, 2, 0);
        Towns.row(x, FOUR_INTS, 2, 1, 0, 2, 1);
        Towns.row(x, THREE_BYTES, 0, 7, 8, 9);
        return x;
    }

    private static Method method(String name) {
        return Arrays.stream(ThoughtBetterOf.class.getMethods()).filter(m -> m.getName().equals(name)).findFirst()
                .orElseThrow();
    }

    /** What a call answers; 1 for an IllegalArgumentException, 2 for an IllegalStateException of element(). */
    private static long answer(ThoughtBetterOf x, String name, int... with) throws ReflectiveOperationException {
        try {
            return ((Number) method(name).invoke(x, Arrays.stream(with).boxed().toArray())).longValue();
        } catch (InvocationTargetException e) {
            boolean argument = e.getCause().getClass() == IllegalArgumentException.class;
            boolean state = e.getCause().getClass() == IllegalStateException.class;
            Said.that(name + " threw " + e.getCause(), name.equals("element") && (argument || state));
            return argument ? 1 : 2;
        }
    }

    /** The call with each wrong value in one place is refused, and changes nothing. */
    private static void refused(String name, long due, int[] well, int place, int... wrong)
            throws ReflectiveOperationException {
        ThoughtBetterOf as = town();
        String before = Towns.told(as);
        as.restore();
        String imaged = Towns.told(as);
        for (int v : wrong) {
            int[] with = well.clone();
            with[place] = v;
            String call = name + Arrays.toString(with);
            ThoughtBetterOf x = town();
            Said.is(call, answer(x, name, with), due);
            Said.that(call + " changed something", Towns.told(x).equals(before));
            x.restore();
            Said.that(call + " changed THE IMAGE", Towns.told(x).equals(imaged));
        }
    }

    /** The call is not refused as out of range. */
    private static void taken(String name, int... with) throws ReflectiveOperationException {
        long answer = answer(town(), name, with);
        Said.that(name + Arrays.toString(with) + " answered " + answer, answer != -1 && answer > -11);
    }

    private static void is(String name, long due, int... with) throws ReflectiveOperationException {
        Said.is(name + Arrays.toString(with), answer(town(), name, with), due);
    }

    private static int[] with(int... values) {
        return values;
    }

    private static void ofTheTown() throws ReflectiveOperationException {
        Said.promise(2, "The text in SHELF d: how many STATEMENTS; the FAULT. -1, -11, -12 (no ROW of bytes).");
        refused("town", -1, with(0), 0, NO_SHELF);
        refused("town", -11, with(0), 0, NOTHING);
        refused("town", -12, with(0), 0, KING, TWO_SHORTS, FOUR_INTS);
        refused("town", -1003, with(0), 0, FAULT_OF_BYTE);
        refused("town", -2003, with(0), 0, FAULT_OF_STATEMENT);
        Said.promise(3, "Of one of PEOPLE: KIND (what 0), FIGURE (1), CASE (2), HOUR told (3), DUE (4), COINS (5), "
                + "MOOD and 9 (6). -1.");
        refused("person", -1, with(0, 0), 0, NOBODY);
        refused("person", -1, with(0, 0), 1, -1, 7, MOST, LEAST);
        int[] drunk = {7, 1, 1, 10, 10, 10, 4};
        for (int what = 0; what < drunk.length; what++) {
            is("person", drunk[what], 1, what);
        }
        Said.promise(4, "SUM of a MOOD (-9 .. 9) and what FACTS weigh (-99 .. 99) of one. Refused as told.");
        refused("weighs", NO_NUMBER, with(0, 0, 0), 0, NOBODY);
        refused("weighs", NO_NUMBER, with(0, 0, 0), 1, -10, 10, MOST, LEAST);
        refused("weighs", NO_NUMBER, with(0, 0, 0), 2, -100, 100, MOST, LEAST);
        is("weighs", 81, 1, -9, 99);
        is("weighs", -81, 1, 9, -99);
        is("weighs", -1, 0, -1, 0);
        Said.promise(5, "STRENGTH of a SUM (-999 .. 999) of one. -1.");
        refused("strength", -1, with(0, 0), 0, NOBODY);
        refused("strength", -1, with(0, 0), 1, -1000, 1000, MOST, LEAST);
        is("strength", 2004, 2, 999);
        is("strength", 2004, 2, -999);
        Said.promise(6, "PRICE of its own thought of which v (0 .. 999) is left. -1.");
        refused("price", -1, with(0, 0), 0, NOBODY);
        refused("price", -1, with(0, 0), 1, -1, 1000, MOST, LEAST);
        is("price", 1249, 0, 999);
        is("price", 623, 1, 999);
        is("price", 0, 1, 0);
        Said.promise(7, "The one on SHELF d comes to be one of PEOPLE: its number. -1, -11, -12 (a ROW), -2.");
        int[] well = {KING, 0, 0, 0, 0};
        refused("comes", -1, well, 0, NO_SHELF);
        refused("comes", -11, well, 0, NOTHING);
        refused("comes", -12, well, 0, FAULT_OF_BYTE, TWO_SHORTS, FOUR_INTS);
        refused("comes", -1, well, 1, -1, 4, MOST, LEAST);
        refused("comes", -1, well, 2, -1, 24, MOST, LEAST);
        refused("comes", -1, well, 3, -10, 10, MOST, LEAST);
        refused("comes", -1, well, 4, -1, 100, MOST, LEAST);
        is("comes", 3, KING, 3, 23, 9, 99);
        is("comes", 3, KING, 0, 0, -9, 0);
        ThoughtBetterOf full = town();
        for (int p = 3; p < 8; p++) {
            Said.is("one more", full.comes(KING, 0, 0, 0, 0), p);
        }
        Said.is("a ninth", full.comes(KING, 0, 0, 0, 0), -2);
        Said.is("eight are there", full.count(0), 8);
    }

    /** person() of each that is left, and of those that are not. */
    private static void leftAre(ThoughtBetterOf x, int[]... due) {
        for (int p = 0; p < due.length; p++) {
            for (int what = 0; what < 7; what++) {
                Said.is("person(" + p + ", " + what + ") of those left", x.person(p, what), due[p][what]);
            }
        }
    }

    private static void ofTheTownChanged() throws ReflectiveOperationException {
        Said.promise(8, "One of PEOPLE is there no more (those behind it are one number less): how many are left. -1.");
        refused("leaves", -1, with(0), 0, NOBODY);
        ThoughtBetterOf x = town();
        int[][] left = {{0, 0, 0, 8, 8, 20, 6}, {3, 3, 0, 9, 9, 50, 12}, {-1, -1, -1, -1, -1, -1, -1}};
        Said.is("the one in between", x.leaves(1), 2);
        leftAre(x, left);
        Said.is("all that choose", x.sums(0) + x.sums(1) + x.sums(2), 2);
        Said.is("all COINS", x.count(6), 70);
        Said.is("the last", x.leaves(1), 1);
        leftAre(x, left[0], left[2]);
        Said.is("all COINS", x.count(6), 20);
        x = town();
        Said.is("the first", x.leaves(0), 2);
        leftAre(x, with(7, 1, 1, 10, 10, 10, 4), left[1], left[2]);
        Said.is("the first once more", x.leaves(0), 1);
        leftAre(x, left[1], left[2]);
        Said.is("the only one", x.leaves(0), 0);
        leftAre(x, left[2]);
        for (int what = 0; what < 6; what++) {
            Said.is("sums(" + what + ") of nobody", x.sums(what), 0);
        }
        Said.is("nobody", x.leaves(0), -1);
        x = new ThoughtBetterOf();
        for (int p = 0; p < 8; p++) {
            x.keep(0, 1, 7 - p, p);
            x.comes(0, p % 4, p + 10, p, p + 20);
        }
        Said.is("the second of eight", x.leaves(1), 7);
        leftAre(x, with(7, 0, 0, 10, 10, 20, 9), with(5, 2, 2, 12, 12, 22, 11), with(4, 3, 3, 13, 13, 23, 12),
                with(3, 4, 0, 14, 14, 24, 13), with(2, 5, 1, 15, 15, 25, 14), with(1, 6, 2, 16, 12, 26, 15),
                with(0, 7, 3, 17, 17, 27, 16), left[2]);
        Said.promise(9, "MOOD becomes v: what it was and 9. -1.");
        refused("mood", -1, with(0, 0), 0, NOBODY);
        refused("mood", -1, with(0, 0), 1, -10, 10, MOST, LEAST);
        x = town();
        Said.is("9", x.mood(0, 9), 6);
        Said.is("-9", x.mood(0, -9), 18);
        Said.is("it is -9", x.person(0, 6), 0);
        Said.is("others are as they were", x.person(1, 6), 4);
        Said.promise(10, "COINS become v: what they were. -1.");
        refused("coins", -1, with(0, 0), 0, NOBODY);
        refused("coins", -1, with(0, 0), 1, -1, 100, MOST, LEAST);
        Said.is("99", x.coins(0, 99), 20);
        Said.is("0", x.coins(0, 0), 99);
        Said.is("all that are left", x.count(6), 60);
        Said.promise(11, "A FACT more: its number. -1, -2.");
        refused("fact", -1, with(0, 0, 0), 0, -1, 4, MOST, LEAST);
        refused("fact", -1, with(0, 0, 0), 1, -10, 10, MOST, LEAST);
        refused("fact", -1, with(0, 0, 0), 2, -1, 24, MOST, LEAST);
        for (int f = 2; f < 6; f++) {
            Said.is("one more", x.fact(3, f % 2 == 0 ? -9 : 9, f % 2 == 0 ? 0 : 23), f);
        }
        Said.is("a seventh", x.fact(0, 0, 0), -2);
        Said.is("six are there", x.count(1), 6);
        Said.promise(12, "Of a FACT: CASE (what 0), WEIGHT and 9 (1), HOUR (2), CHANCE (3). -1.");
        refused("about", -1, with(0, 0), 0, -1, 2, 6, MOST, LEAST);
        refused("about", -1, with(0, 0), 1, -1, 4, MOST, LEAST);
        int[] about = {1, 5, 11, 10};
        for (int what = 0; what < about.length; what++) {
            is("about", about[what], 1, what);
        }
        Said.promise(13, "CHANCE becomes v: what it was. -1.");
        refused("chance", -1, with(0, 0), 0, -1, 2, 6, MOST, LEAST);
        refused("chance", -1, with(0, 0), 1, -1, 11, MOST, LEAST);
        Said.is("10", x.chance(0, 10), 3);
        Said.is("0", x.chance(0, 0), 10);
        Said.is("another one's is as it was", x.about(1, 3), 10);
        Said.promise(14, "Two CASES are KIN, or not any more: 1, 0. -1 (one twice).");
        refused("kin", -1, with(0, 1), 0, -1, 4, 1, MOST, LEAST);
        refused("kin", -1, with(0, 1), 1, -1, 4, 0, MOST, LEAST);
        is("kin", 0, 1, 0);
        is("kin", 1, 3, 0);
        Said.promise(15, "OPEN (what 0), FADE (1), RATE (2) becomes v: what it was. -1.");
        refused("set", -1, with(0, 1), 0, -1, 3, MOST, LEAST);
        refused("set", -1, with(0, 1), 1, -1, 24, MOST, LEAST);
        refused("set", -1, with(1, 1), 1, -1, 10, MOST, LEAST);
        refused("set", -1, with(2, 1), 1, -1, 0, 10, MOST, LEAST);
        int[] was = {9, 1, 5};
        int[] most = {23, 9, 9};
        int[] least = {0, 0, 1};
        for (int what = 0; what < 3; what++) {
            is("set", was[what], what, most[what]);
            is("set", was[what], what, least[what]);
        }
    }

    private static void ofADay() throws ReflectiveOperationException {
        Said.promise(16, "FATE: CHOICE (what 0), STRENGTH (1), whose (2; -4), paid (3; -4), COINS (4), 1 it "
                + "REGRETS (5), the HOUR (6; -4), STRENGTH then (7; -4), who bought it (8; -4). -1.");
        refused("fate", -1, with(0, 0), 0, NOBODY);
        refused("fate", -1, with(0, 0), 1, -1, 9, MOST, LEAST);
        // 0 buys the PLANT's 7 at 8 (12 less 5) for no, and thinks 2 for yes at 9; 1 thinks -10 at 10
        int[][] due = {{2, 3, 8, 0, 20, 1, 9, 2, -4}, {2, 10, -4, -4, 10, 0, -4, -4, -4},
            {1, 22, -4, -4, 50, 0, -4, -4, -4}};
        for (int p = 0; p < 3; p++) {
            for (int what = 0; what < 9; what++) {
                is("fate", due[p][what], p, what);
            }
        }
        Said.promise(17, "SUM of its FIRST thought. Refused as told.");
        refused("sum", NO_NUMBER, with(0), 0, NOBODY);
        is("sum", -3, 0);
        is("sum", -10, 1);
        is("sum", 8, 2);
        Said.promise(18, "SUMS: 0 .. 5 as told. -1.");
        refused("sums", -1, with(0), 0, -1, 6, MOST, LEAST);
        int[] sums = {1, 2, 0, 1, 0, 1};
        for (int what = 0; what < sums.length; what++) {
            is("sums", sums[what], what);
        }
        Said.promise(19, "MARKET (bits). -1.");
        refused("market", -1, with(0), 0, -1, 24, MOST, LEAST);
        int[] market = {0, 0, 0, 256, 256, 256, 256, 256, 0, 1, 1, 0};
        for (int hour = 0; hour < 24; hour++) {
            is("market", hour < market.length ? market[hour] : 0, hour);
        }
        Said.promise(20, "CHAIN. -1.");
        refused("chain", -1, with(0), 0, NOBODY);
        is("chain", 1, 0);
        is("chain", 0, 2);
        Said.promise(21, "The greatest CHAIN of all (0 nobody).");
        is("longest", 1);
        Said.is("nobody", new ThoughtBetterOf().longest(), 0);
    }

    private static void ofWhatTurnsOne() throws ReflectiveOperationException {
        Said.promise(22, "FACTS THAT TURN (bits). -1.");
        refused("turners", -1, with(0), 0, NOBODY);
        is("turners", 0, 0);
        Said.promise(23, "YES (bits). -1.");
        refused("yes", -1, with(0), 0, NOBODY);
        // from 9 on by itself, but from 9 to 12 the PLANT's 6 to 3 are more than its own 2
        is("yes", 0xFFE000, 0);
        Said.promise(24, "MOODS: how many (what 0), the least and 9 (1; -4). -1.");
        refused("moods", -1, with(0, 0), 0, NOBODY);
        refused("moods", -1, with(0, 0), 1, -1, 2, MOST, LEAST);
        // with 7 to 9 the PLANT's 7 are not more than its own
        is("moods", 3, 0, 0);
        is("moods", 16, 0, 1);
        Said.promise(25, "LIKELY, part 0 above, 1 below the line. Refused as told.");
        refused("likely", NO_NUMBER, with(0, 0), 0, NOBODY);
        refused("likely", NO_NUMBER, with(0, 0), 1, -1, 2, MOST, LEAST);
        is("likely", 1, 2, 0);
        is("likely", 1, 2, 1);
        is("likely", 0, 1, 0);
        is("likely", 1, 1, 1);
        Said.promise(26, "LIKELY of all in the mean; part likewise. Refused as told.");
        refused("mean", NO_NUMBER, with(0), 0, -1, 2, MOST, LEAST);
        is("mean", 1, 0);
        is("mean", 1, 1);
        Said.promise(27, "TURN: STRENGTH (what 0), the CASE (1; -4 with STRENGTH 0); -4. -1 (bits of nobody).");
        refused("turn", -1, with(1, 0), 0, -1, 8, 9, 15, 1 << 30, MOST, LEAST);
        refused("turn", -1, with(1, 0), 1, -1, 2, MOST, LEAST);
        is("turn", 0, 4, 0);
        is("turn", -4, 4, 1);
        // 8 less FADE for 8 HOURS must be more than the PLANT's 7
        is("turn", 16, 1, 0);
        is("turn", 0, 1, 1);
        is("turn", -4, 7, 0);
        Said.promise(28, "GUARD; -4. -1 (bits of nobody).");
        refused("guard", -1, with(1), 0, -1, 8, 9, 15, 1 << 30, MOST, LEAST);
        is("guard", 0, 0);
        is("guard", 0, 7);
        Said.promise(29, "LAW. -1.");
        refused("law", -1, with(0), 0, -1, 10, MOST, LEAST);
        taken("law", 0);
        taken("law", 9);
        Said.promise(30, "BEST RATE.");
        is("bestRate", 1);
        Said.promise(31, "BEST OPEN.");
        is("bestOpen", 0);
        Said.promise(32, "PURSE. -1.");
        refused("purse", -1, with(0), 0, NOBODY);
        is("purse", 0, 0);
        Said.promise(33, "TWO; -4. -1 (one twice).");
        refused("two", -1, with(0, 1), 0, -1, 3, 1, 8, MOST, LEAST);
        refused("two", -1, with(0, 1), 1, -1, 3, 0, 8, MOST, LEAST);
        taken("two", 0, 1);
        taken("two", 2, 1);
        Said.promise(34, "WITHOUT a MARKET.");
        is("without", 0);
        Said.promise(35, "AGAIN: the day (what 0), that one ahead (1); -4. -1.");
        refused("again", -1, with(0), 0, -1, 2, MOST, LEAST);
        taken("again", 0);
        taken("again", 1);
    }

    private static void ofDaysExplained() throws ReflectiveOperationException {
        Said.promise(36, "EXPLAINED by the ROW in SHELF d: how many (what 0), the least (1; -4). -1, -11, -12 (no "
                + "ROW), -13 more numbers than PEOPLE.");
        refused("explained", -1, with(TWO_SHORTS, 0), 0, NO_SHELF);
        refused("explained", -1, with(TWO_SHORTS, 0), 1, -1, 2, MOST, LEAST);
        refused("explained", -11, with(TWO_SHORTS, 0), 0, NOTHING);
        refused("explained", -12, with(TWO_SHORTS, 0), 0, KING);
        refused("explained", -13, with(TWO_SHORTS, 0), 0, FOUR_INTS, FAULT_OF_BYTE);
        is("explained", 0, THREE_BYTES, 0);
        is("explained", -4, THREE_BYTES, 1);
        Said.promise(37, "FORGED; -4. -1, -11, -12, -13 likewise.");
        refused("forged", -1, with(TWO_SHORTS), 0, NO_SHELF);
        refused("forged", -11, with(TWO_SHORTS), 0, NOTHING);
        refused("forged", -12, with(TWO_SHORTS), 0, KING);
        refused("forged", -13, with(TWO_SHORTS), 0, FOUR_INTS, FAULT_OF_BYTE);
        is("forged", 0, THREE_BYTES);
        is("forged", 1, TWO_SHORTS);
        Said.promise(38, "JUDGED by the ROW in SHELF d; -4. -1, -11, -12 (no ROW).");
        refused("judge", -1, with(0, TWO_SHORTS), 0, NOBODY);
        refused("judge", -1, with(0, TWO_SHORTS), 1, NO_SHELF);
        refused("judge", -11, with(0, TWO_SHORTS), 1, NOTHING);
        refused("judge", -12, with(0, TWO_SHORTS), 1, KING);
        is("judge", 0, 0, TWO_SHORTS);
        is("judge", 0, 0, FOUR_INTS);
        Said.promise(39, "SEEDS: yes (what 0), sold (1). -1.");
        refused("seeds", -1, with(1, 0, 0), 0, -1, 0, 21, MOST, LEAST);
        refused("seeds", -1, with(1, 0, 0), 2, -1, 2, MOST, LEAST);
        taken("seeds", 1, LEAST, 0);
        taken("seeds", 20, MOST, 1);
    }

    private static void ofTheImage() throws ReflectiveOperationException {
        Said.promise(40, "THE IMAGE is taken: how many of PEOPLE.");
        is("image", 3);
        Said.is("of nobody", new ThoughtBetterOf().image(), 0);
        ThoughtBetterOf x = town();
        x.image();
        x.leaves(0);
        Said.is("the new one in place of the old one", x.restore(), 3);
        Said.promise(41, "THE IMAGE is RESTORED: how many of PEOPLE. -3 there is none.");
        is("restore", 2);
        Said.is("none", new ThoughtBetterOf().restore(), -3);
        x = new ThoughtBetterOf();
        x.image();
        x.keep(0, 1, 0, 0);
        x.comes(0, 0, 0, 0, 0);
        Said.is("of nobody", x.restore(), 0);
        Said.is("nobody is there", x.count(0), 0);
        Said.is("there is one still", x.restore(), 0);
        Said.promise(42, "0 PEOPLE, 1 FACTS, 2 PLANTS, 3 OPEN, 4 FADE, 5 RATE, 6 all COINS, 7 pairs of KIN; -1 for "
                + "others.");
        refused("count", -1, with(0), 0, -1, 8, MOST, LEAST);
        int[] due = {3, 2, 1, 9, 1, 5, 80, 2};
        for (int what = 0; what < due.length; what++) {
            is("count", due[what], what);
        }
    }

    private static void ofShelves() throws ReflectiveOperationException {
        Said.promise(43, "SHELF d gets: what = 0 nothing (the others do not matter); 1 one of PEOPLE of KIND k with a "
                + "FIGURE: 0. -1.");
        refused("keep", -1, with(0, 1, 0, 0), 0, NO_SHELF);
        refused("keep", -1, with(0, 0, 0, 0), 0, NO_SHELF);
        refused("keep", -1, with(0, 1, 0, 0), 1, -1, 2, MOST, LEAST);
        refused("keep", -1, with(0, 1, 0, 0), 2, -1, 8, MOST, LEAST);
        refused("keep", -1, with(0, 1, 0, 0), 3, -1, 10, MOST, LEAST);
        is("keep", 0, 0, 0, LEAST, MOST);
        is("keep", 0, KING, 0, 8, 10);
        is("keep", 0, 0, 1, 7, 9);
        ThoughtBetterOf x = town();
        x.keep(KING, 0, -1, -1);
        Said.is("nothing then", x.cost(KING), -11);
        Said.is("nothing once more", x.keep(KING, 0, 0, 0), 0);
        Said.promise(44, "SHELF d gets a ROW of a SORT: 0. -1 (n above 100); -14.");
        refused("row", -1, with(0, 0, 0), 0, NO_SHELF);
        refused("row", -1, with(0, 0, 0), 1, -1, 3, MOST, LEAST);
        refused("row", -1, with(0, 0, 0), 2, 101, MOST);
        refused("row", -14, with(0, 0, 0), 2, -1, -100, LEAST);
        is("row", 0, 0, 2, 100);
        is("row", 0, KING, 0, 0);
        x = town();
        x.row(THREE_BYTES, 0, 3);
        Said.is("0 at first, again", x.element(THREE_BYTES, 0) + x.element(THREE_BYTES, 2), 0);
        Said.is("other ROWS are as they were", x.element(TWO_SHORTS, 0), 2);
    }

    private static void ofRows() throws ReflectiveOperationException {
        Said.promise(45, "Element i of the ROW becomes v: 0. -1, -11, -12, -13.");
        refused("put", -1, with(0, 0, 5), 0, NO_SHELF);
        refused("put", -11, with(0, 0, 5), 0, NOTHING);
        refused("put", -12, with(0, 0, 5), 0, KING);
        refused("put", -13, with(THREE_BYTES, 0, 5), 1, -1, 3, 100, MOST, LEAST);
        is("put", 0, THREE_BYTES, 2, LEAST);
        is("put", 0, THREE_BYTES, 0, MOST);
        Said.promise(46, "Element i of the ROW. IllegalArgumentException: no such SHELF; IllegalStateException: no "
                + "ROW, no such place.");
        refused("element", 1, with(0, 0), 0, NO_SHELF);
        refused("element", 1, with(0, -1), 0, NO_SHELF);
        refused("element", 2, with(0, 0), 0, NOTHING, KING);
        refused("element", 2, with(THREE_BYTES, 0), 1, -1, 3, 100, MOST, LEAST);
        is("element", 7, THREE_BYTES, 0);
        is("element", 9, THREE_BYTES, 2);
        Said.promise(47, "n elements of the ROW in SHELF d from i on come to that in SHELF e from j on: n. -1, -11 "
                + "(either), -12 (no ROWS of one SORT), -13.");
        int[] well = {FAULT_OF_BYTE, 1, THREE_BYTES, 1, 2};
        is("copy", 2, well);
        refused("copy", -1, well, 0, NO_SHELF);
        refused("copy", -1, well, 2, NO_SHELF);
        refused("copy", -11, well, 0, NOTHING);
        refused("copy", -11, well, 2, NOTHING);
        refused("copy", -12, well, 0, KING, TWO_SHORTS, FOUR_INTS);
        refused("copy", -12, well, 2, KING, TWO_SHORTS, FOUR_INTS);
        refused("copy", -13, well, 1, -1, 3, 4, 100, MOST, LEAST);
        refused("copy", -13, well, 3, -1, 2, 3, 100, MOST, LEAST);
        refused("copy", -13, well, 4, -1, 3, 100, MOST, LEAST);
        is("copy", 0, FAULT_OF_BYTE, 4, THREE_BYTES, 3, 0);
        refused("copy", -13, with(FAULT_OF_BYTE, 4, THREE_BYTES, 3, 0), 1, 5);
        refused("copy", -13, with(FAULT_OF_BYTE, 4, THREE_BYTES, 3, 0), 3, 4);
        ThoughtBetterOf x = town();
        x.copy(THREE_BYTES, 0, THREE_BYTES, 1, 2);
        Said.is("onto itself", 100 * x.element(THREE_BYTES, 0) + 10 * x.element(THREE_BYTES, 1)
                + x.element(THREE_BYTES, 2), 778);
    }

    private static void ofOneOnAShelf() throws ReflectiveOperationException {
        Said.promise(48, "COST of the one on SHELF d: PLAIN 6; BRIDE 12 more; FIRM FIGURE more; SWORN twice a FIRM's; "
                + "GENERAL 9 more; KING a GENERAL's and FIGURE; CHILD half of a PLAIN's; DRUNK 1 less than a CHILD's. "
                + "-1, -11, -12 (a ROW).");
        refused("cost", -1, with(0), 0, NO_SHELF);
        refused("cost", -11, with(0), 0, NOTHING);
        refused("cost", -12, with(0), 0, FAULT_OF_BYTE, TWO_SHORTS, FOUR_INTS);
        ThoughtBetterOf x = new ThoughtBetterOf();
        for (int figure = 0; figure < 10; figure++) {
            int[] due = {6, 18, 6 + figure, 12 + 2 * figure, 15, 15 + figure, 3, 2};
            for (int kind = 0; kind < 8; kind++) {
                x.keep(0, 1, kind, figure);
                Said.is("KIND " + kind + ", FIGURE " + figure, x.cost(0), due[kind]);
            }
        }
        Said.promise(49, "The FAILURE of the one on SHELF d is thrown, and caught: its FIGURE; of FIRM and SWORN ones "
                + "100 more; of KINGS 200 plus their COST, in place of all that (FIGURE, too). -1, -11, -12 (a ROW); "
                + "-15: CHILDREN and DRUNKS, and any with FIGURE 0, have none.");
        refused("toss", -1, with(0), 0, NO_SHELF);
        refused("toss", -11, with(0), 0, NOTHING);
        refused("toss", -12, with(0), 0, FAULT_OF_BYTE, TWO_SHORTS, FOUR_INTS);
        for (int figure = 0; figure < 10; figure++) {
            int[] due = {figure, figure, 100 + figure, 100 + figure, figure, 215 + figure, -15, -15};
            for (int kind = 0; kind < 8; kind++) {
                x.keep(0, 1, kind, figure);
                Said.is("KIND " + kind + ", FIGURE " + figure, x.toss(0), figure == 0 ? -15 : due[kind]);
            }
        }
    }
}
