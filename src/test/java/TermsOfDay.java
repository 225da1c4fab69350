/** Part I of the document's terms, as far as it tells a DAY, and THE TEXT of a TOWN: sentence by sentence. */
final class TermsOfDay {
    private TermsOfDay() {
    }

    static void all() {
        hours();
        firstThoughtsComeForSale();
        secondThoughts();
        thenPeopleChoose();
        whatIsTaken();
        whichIsTaken();
        whatIsPaid();
        whatIsLeft();
        text();
        faultsOfFirstKind();
        faultsOfSecondKind();
        allOrNothing();
    }

    private static void hours() {
        Said.so("A DAY goes by HOURS 0 .. 23.");
        ThoughtBetterOf x = Towns.of("o23;f0+123;t0+600000;d0;p30000+000;p30023+000;");
        Said.is("chooses at 0", x.fate(0, 0), 0);
        Said.is("chooses at 23", x.fate(1, 0), 1);
        Said.is("at 0", x.market(0), 256);
        Said.is("at 22", x.market(22), 256);
        Said.is("at 23", x.market(23), 257);
        Said.is("at 24", x.market(24), -1);
        Said.is("at -1", x.market(-1), -1);
    }

    private static void firstThoughtsComeForSale() {
        Said.so("In an HOUR first those thoughts come for sale whose HOUR it is: PLANTS; and of each of PEOPLE that "
                + "chose by now, in the HOUR that is OPEN or the one behind its DUE, whichever is later (none behind "
                + "23), its SECOND thought:");
        for (int hour = 0; hour < 24; hour++) {
            String at = "" + hour / 10 + hour % 10;
            String plant = "d0;t0-0500" + at + ";";
            Said.is("a PLANT at " + hour + ", due then", Towns.of(plant + "p000" + at + "+000;").fate(0, 0), 2);
            if (hour > 0) {
                String ahead = "" + (hour - 1) / 10 + (hour - 1) % 10;
                Said.is("a PLANT at " + hour + ", due ahead", Towns.of(plant + "p000" + ahead + "+000;").fate(0, 0), 0);
            }
        }
        // it buys a PLANT's no, and thinks yes itself
        for (int open = 0; open < 24; open++) {
            for (int due = 0; due < 24; due++) {
                ThoughtBetterOf x = Towns.of("d0;t0-600000;f0+100;");
                x.set(0, open);
                x.keep(0, 1, 0, 0);
                x.comes(0, 0, due, 0, 0);
                int from = open > due ? open : due + 1;
                Said.is("OPEN " + open + ", DUE " + due, x.fate(0, 6), from > 23 ? -4 : from);
                Said.is("OPEN " + open + ", DUE " + due + ", REGRETS", x.fate(0, 5), from > 23 ? 0 : 1);
                Said.is("OPEN " + open + ", DUE " + due + ", at the end", x.market(23), from > 23 ? 0 : 1);
            }
        }
        // one due when it comes buys the SECOND thought of another
        String seller = "o10;d0;f0+909;p00008-300;";
        Said.is("due when it comes", Towns.of(seller + "p00010-909;").fate(1, 2), 0);
        Said.is("due ahead", Towns.of(seller + "p00009-909;").fate(1, 2), -4);
    }

    private static void secondThoughts() {
        Said.so("the SUM of its MOOD and all FACTS of its CASE known in that HOUR, if its SIDE is not 0 and not that "
                + "of its CHOICE (it REGRETS then).");
        String one = "o10;p00008-300;";
        Said.is("known in that HOUR", Towns.of(one + "f0+910;").fate(0, 7), 6);
        Said.is("known in between", Towns.of(one + "f0+909;").fate(0, 7), 6);
        Said.is("known behind it", Towns.of(one + "f0+911;").fate(0, 7), -4);
        Said.is("known ahead of the DUE, too", Towns.of("o10;p00008-300;f0-100;f0+909;").fate(0, 7), 5);
        Said.is("of another CASE", Towns.of(one + "f1+910;").fate(0, 7), -4);
        Said.is("of a KIN CASE", Towns.of(one + "k01;f1+910;").fate(0, 7), -4);
        Said.is("all of them", Towns.of(one + "f0+909;f0+910;f0-409;f0+911;f3+909;").fate(0, 7), 11);
        // 1, 0 or -1 first, 1, 0 or -1 then
        for (int first = -1; first < 2; first++) {
            for (int second = -1; second < 2; second++) {
                ThoughtBetterOf x = new ThoughtBetterOf();
                x.fact(0, second - first, 9);
                x.keep(0, 1, 0, 0);
                x.comes(0, 0, 8, first, 0);
                boolean due = second != 0 && second != first;
                String name = first + ", then " + second;
                Said.is(name, x.fate(0, 5), due ? 1 : 0);
                Said.is(name + ", HOUR", x.fate(0, 6), due ? 15 : -4);
                Said.is(name + ", STRENGTH", x.fate(0, 7), due ? 1 : -4);
                Said.is(name + ", all that REGRET", x.sums(5), due ? 1 : 0);
            }
        }
        // the CHOICE that was bought is it, not the FIRST thought
        Said.is("bought no, thinks yes as it did", Towns.of("t0-600000;p00008+500;").fate(0, 5), 1);
        Said.is("bought no, thinks no now", Towns.of("t0-600000;f0-909;p00008+500;").fate(0, 5), 0);
        Said.is("bought no, thinks nothing now", Towns.of("t0-600000;f0-509;p00008+500;").fate(0, 5), 0);
    }

    private static void thenPeopleChoose() {
        Said.so("Then PEOPLE whose DUE it is choose by numbers: its FIRST thought is the SUM of its MOOD and of FACTS "
                + "of its CASE known by then.");
        ThoughtBetterOf x = Towns.of("d0;t0-600000;p00005+100;p00005+100;p00005+100;");
        for (int p = 0; p < 3; p++) {
            Said.is("by numbers, " + p, x.fate(p, 2), p == 0 ? 8 : -4);
        }
        x.leaves(0);
        Said.is("by numbers, one left", x.fate(0, 2), 8);
        x = Towns.of("d0;t0-600000;p00006+100;p00005+100;p10023+100;p00004+100;");
        for (int p = 0; p < 4; p++) {
            Said.is("by HOURS ahead of numbers, " + p, x.fate(p, 2), p == 3 ? 8 : -4);
        }
        String one = "k01;p00008-300;";
        Said.is("known then", Towns.of(one + "f0+708;").sum(0), 4);
        Said.is("known ahead", Towns.of(one + "f0+700;").sum(0), 4);
        Said.is("known behind", Towns.of(one + "f0+709;").sum(0), -3);
        Said.is("of a KIN CASE", Towns.of(one + "f1+700;").sum(0), -3);
        Said.is("all of them", Towns.of(one + "f0+700;f0-208;f0+109;f2+900;").sum(0), 2);
    }

    private static void taken(String name, String text, int p, int due) {
        Said.is(name, Towns.of(text).fate(p, 2), due);
    }

    private static void whatIsTaken() {
        Said.so("Of thoughts for sale that are not sold, whose CASE is KIN to its own, of which something is left, "
                + "that it BUYS and whose PRICE its COINS are enough for,");
        taken("sold in that HOUR", "d0;t0-600000;p00005+100;p00005+100;", 1, -4);
        taken("sold ahead", "d0;t0-600000;p00005+100;p00006+100;", 1, -4);
        taken("one's, sold", "o00;d0;f0+901;p00000-300;p00002-909;p00003-909;", 2, -4);
        taken("one's, not sold", "o00;d0;f0+901;p00000-300;p00002-905;p00003-909;", 2, 0);
        taken("the other one is left", "d0;t0-600000;t0-060000;p00005+100;p00005+100;", 1, 9);
        taken("not KIN", "d0;t1-600000;p00005+100;", 0, -4);
        taken("KIN", "d0;k01;t1-600000;p00005+100;", 0, 8);
        taken("KIN of KIN", "d0;k01;k12;t2-600000;p00005+100;", 0, -4);
        taken("1 left", "d1;t0-060000;p60005+000;", 0, 8);
        taken("0 left, as much as a CHILD's own", "d1;t0-050000;p60005+000;", 0, -4);
        taken("0 left by far", "d9;t0-050000;p60005+000;", 0, -4);
        taken("0 left, a DRUNK's own is 0", "d1;t0-050000;p70005+000;", 0, -4);
        taken("as much as its own", "d0;t0-050000;p00005+500;", 0, -4);
        taken("more than its own", "d0;t0-060000;p00005+500;", 0, 8);
        taken("COINS less than the PRICE", "d0;t0-060900;p00005+508;", 0, -4);
        taken("COINS just enough", "d0;t0-060900;p00005+509;", 0, 8);
        taken("one's PRICE, 1 less", "o00;d0;f0+901;p00000-300;p00002-905;", 1, -4);
        taken("one's PRICE, just enough", "o00;d0;f0+901;p00000-300;p00002-906;", 1, 0);
        taken("the best is too dear", "d0;t0-602000;t0-061000;p00005+519;", 0, 9);
    }

    private static void whichIsTaken() {
        Said.so("it takes that of which most is left, of several the cheapest, then PEOPLE's by numbers, then "
                + "PLANTS':");
        taken("most left, the dearest", "d0;t0-060000;t0-079900;t0-060000;p00005+199;", 0, 9);
        taken("most left now", "d9;t0-600000;t0-240004;t0-160005;p00005+199;", 0, 10);
        taken("the cheapest", "d0;t0-060500;t0-060400;t0-060500;p00005+199;", 0, 9);
        taken("all the same, PLANTS", "d0;t0-060500;t0-060500;t0-060500;p00005+199;", 0, 8);
        // 6 of one are left, for 6 COINS
        String ones = "o00;d0;f0+901;p00000-300;p00000-300;p00002-999;";
        taken("all the same, PEOPLE", ones, 2, 0);
        taken("all the same, PEOPLE and PLANTS", ones + "t0-060600;t0+060600;", 2, 0);
        taken("a cheaper PLANT", ones + "t0-060600;t0+060500;", 2, 9);
        taken("a dearer PLANT", ones + "t0-060700;", 2, 0);
        taken("a PLANT of which more is left", ones + "t0-079900;", 2, 8);
        taken("a PLANT of which less is left", ones + "t0-050100;", 2, 0);
        // the one of a lower number comes for sale later, and has as much left
        taken("by numbers, not by HOURS", "o00;d0;k01;f0+901;f1+904;p00103-300;p00000-300;p00005-999;", 2, 0);
        // a CHILD's costs less than a PLAIN one's of a lower number
        taken("the cheaper of two", "o00;d0;f0+901;p00000-300;p60000-300;p00002-999;", 2, 1);
    }

    private static void whatIsPaid() {
        Said.so("it pays (COINS come to who sold it; a PLANT's to nobody) and its CHOICE is the SIDE of that; with "
                + "none its CHOICE is the SIDE of its FIRST one (0: undecided).");
        ThoughtBetterOf x = Towns.of("o00;d0;f0+901;p00000-310;p00002-999;p00000-310;");
        int[] coins = {16, 93, 10};
        for (int p = 0; p < 3; p++) {
            Said.is("COINS of " + p, x.fate(p, 4), coins[p]);
        }
        Said.is("its CHOICE is yes", x.fate(1, 0), 1);
        Said.is("told COINS are as they were", x.count(6), 119);
        ThoughtBetterOf y = Towns.of("d0;t0-601700;p00002+320;p00002+330;");
        Said.is("a PLANT's PRICE", y.fate(0, 4), 3);
        Said.is("nobody gets it", y.fate(1, 4), 30);
        Said.is("its CHOICE is no", y.fate(0, 0), 2);
        Said.is("with none, yes", y.fate(1, 0), 1);
        Said.is("the SIDE that it had", Towns.of("t0-600000;p00000-100;").fate(0, 0), 2);
        Said.is("with none, no", Towns.of("p00000-100;").fate(0, 0), 2);
        Said.is("with none, undecided", Towns.of("p00000+000;").fate(0, 0), 0);
        // 99 COINS and what is paid: there is no most of them
        Said.is("99 and 6", Towns.of("o00;d0;f0+901;p00000-399;p00002-999;").fate(0, 4), 105);
    }

    private static void whatIsLeft() {
        Said.so("What is left of a thought: its STRENGTH less what it FADES for each HOUR it has been for sale (a "
                + "PLANT by FADE), 0 at least.");
        // 40 at 3, 7 less each HOUR; what is bought tells what was left: more than one's own
        int[] left = {40, 33, 26, 19, 12, 5, 0, 0};
        for (int i = 0; i < left.length; i++) {
            for (int more = -1; more < 2; more++) {
                int own = left[i] + more;
                if (own < 0 || own > 45) {
                    continue;
                }
                ThoughtBetterOf x = Towns.of("d7;t0-400003;");
                for (int facts = 0; facts < 5; facts++) {
                    x.fact(0, Math.max(0, Math.min(9, own - 9 * facts)), 0);
                }
                x.keep(0, 1, 0, 0);
                x.comes(0, 0, 3 + i, 0, 0);
                Said.is("own " + own + " at " + (3 + i), x.fate(0, 1), own);
                Said.is("left " + left[i] + ", own " + own, x.fate(0, 2), own < left[i] ? 8 : -4);
            }
        }
        // 6 of one at 1, 2 less each HOUR: 4 COINS at 2, 2 at 3
        Said.is("one's at 1", Towns.of("o00;d2;f0+901;p00000-300;p00001-999;").fate(1, 3), 6);
        Said.is("one's at 2", Towns.of("o00;d2;f0+901;p00000-300;p00002-999;").fate(1, 3), 4);
        Said.is("one's at 3", Towns.of("o00;d2;f0+901;p00000-300;p00003-999;").fate(1, 3), 2);
        Said.is("one's at 4", Towns.of("o00;d2;f0+901;p00000-300;p00004-999;").fate(1, 3), -4);
        Said.is("a FIRM one's at 2", Towns.of("o00;d2;f0+901;p20000-300;p00002-999;").fate(1, 3), 5);
    }

    private static int told(String text) {
        return Towns.tell(new ThoughtBetterOf(), text);
    }

    private static void text() {
        Said.so("THE TEXT of a TOWN stands in a ROW of bytes on a SHELF: STATEMENTS, each with \";\" behind, one at "
                + "least: \"f\" a CASE (a digit), \"+\" or \"-\", WEIGHT (a digit), HOUR (2 digits): a FACT more; "
                + "\"p\" KIND, FIGURE, CASE (a digit each), HOUR (2 digits), \"+\" or \"-\", MOOD (a digit), COINS (2 "
                + "digits): one of PEOPLE more; \"k\" two CASES (a digit each): they are KIN, or, told again, not; "
                + "\"t\" a CASE (a digit), \"+\" or \"-\" (the SIDE), STRENGTH, PRICE, HOUR (2 digits each): a PLANT "
                + "more; \"o\" OPEN (2 digits); \"d\" FADE (a digit); \"r\" RATE (a digit).");
        Said.is("none", told(""), -1000);
        Said.is("no \";\" behind", told("d3"), -1002);
        Said.is("one", told("d3;"), 1);
        Said.is("\";\" alone", told(";"), -1000);
        ThoughtBetterOf x = Towns.of("f3-723;p49210-907;k31;t2-602310;o07;d8;r9;");
        int[] fact = {3, 2, 23, 10};
        for (int what = 0; what < 4; what++) {
            Said.is("the FACT, " + what, x.about(0, what), fact[what]);
        }
        int[] person = {4, 9, 2, 10, 10, 7, 0};
        for (int what = 0; what < 7; what++) {
            Said.is("the one, " + what, x.person(0, what), person[what]);
        }
        int[] counts = {1, 1, 1, 7, 8, 9, 7, 1};
        for (int what = 0; what < 8; what++) {
            Said.is("count(" + what + ")", x.count(what), counts[what]);
        }
        Said.is("the PLANT is for sale at 10", x.market(9), 0);
        x.coins(0, 23);
        Said.is("its PRICE is 23", x.fate(0, 3), 23);
        Said.is("its SIDE is no", x.fate(0, 0), 2);
        Said.is("KIN told again", Towns.tell(x, "k13;k20;"), 2);
        Said.is("KIN told again: not", x.kin(3, 1), 1);
        Said.is("KIN told once", x.kin(0, 2), 0);
        Said.so("numbers in THE TEXT have just as many digits as told;");
        String[] wrong = {"f0+1;", "f0+11;", "f0+1111;", "f00+111;", "f0+;", "p00000+00;", "p00000+0000;",
            "p0000+000;", "p000000+000;", "k0;", "k012;", "t0+01000;", "t0+0100000;", "t+010000;", "o1;", "o012;",
            "d;", "d01;", "r;", "r11;"};
        int[] place = {4, 5, 6, 2, 3, 9, 10, 5, 6, 2, 3, 8, 9, 1, 2, 3, 1, 2, 1, 2};
        for (int i = 0; i < wrong.length; i++) {
            Said.is(wrong[i], told(wrong[i]), -1000 - place[i]);
            Said.is("behind another one: " + wrong[i], told("o23;" + wrong[i]), -1004 - place[i]);
        }
    }

    private static void faultsOfFirstKind() {
        Said.so("FAULT: kind 1 the place of the first byte with which no TOWN can go on (the end, if something lacks): "
                + "-1000 less the place;");
        String all = "f0+101;p00001+101;k01;t0+010000;o04;d1;r1;";
        for (int cut = 0; cut < all.length(); cut++) {
            boolean whole = cut > 0 && all.charAt(cut - 1) == ';';
            int statements = all.substring(0, cut).split(";").length;
            Said.is("cut at " + cut, told(all.substring(0, cut)), whole ? statements : -1000 - cut);
        }
        for (int i = 0; i < all.length(); i++) {
            for (int wrong = -128; wrong < 128; wrong++) {
                char due = all.charAt(i);
                boolean fits = due == ';' ? wrong == ';' : Character.isDigit(due) ? wrong >= '0' && wrong <= '9'
                        : due == '+' ? wrong == '+' || wrong == '-' : "fpktodr".indexOf((char) wrong) >= 0;
                if (!fits) {
                    Said.is(wrong + " at " + i, told(all.substring(0, i) + (char) wrong + all.substring(i + 1)),
                            -1000 - i);
                }
            }
        }
        Said.is("one byte too many", told(all + "k"), -1001 - all.length());
        Said.is("100 bytes, the end", told("d1;".repeat(33) + "r"), -1100);
        Said.is("100 bytes", told("d1;".repeat(32) + "o10;"), 33);
    }

    private static void faultsOfSecondKind() {
        Said.so("else kind 2 the place of the letter of the first STATEMENT that is not as it must be (a number out of "
                + "range, one CASE twice, no room): -2000 less the place.");
        String[] wrong = {"f4+101;", "f0+124;", "p80001+109;", "p00401+109;", "p00024+109;", "k00;", "k22;", "k04;",
            "k40;", "t4+010000;", "t0+000000;", "t0+610000;", "t0+010024;", "o24;", "r0;"};
        for (String statement : wrong) {
            Said.is(statement, told(statement), -2000);
            Said.is("d3;" + statement, told("d3;" + statement), -2003);
            Said.is(statement + "d3;", told(statement + "d3;"), -2000);
            Said.is("the first of two: " + statement, told("o10;" + statement + "r0;"), -2004);
            Said.is("kind 1 goes ahead: " + statement, told(statement + "?"), -1000 - statement.length());
        }
        Said.is("no room for a FACT", told("f0+101;".repeat(7)), -2042);
        Said.is("no room for one more", told("p00001+101;".repeat(9)), -2088);
        Said.is("no room for a PLANT", told("t0+010000;".repeat(4)), -2030);
        Said.so("STATEMENTS are tried one behind the other, each on what those ahead of it made, and the first that "
                + "can't be done so is told (kind 2).");
        ThoughtBetterOf x = Towns.of("f0+101;f0+101;f0+101;f0+101;t0+010000;");
        Said.is("2 FACTS of room", Towns.tell(x, "f0+101;f0+101;k00;"), -2014);
        Said.is("2 FACTS of room, 3 told", Towns.tell(x, "f0+101;f0+101;f0+101;k00;"), -2014);
        Said.is("2 PLANTS of room, 3 told", Towns.tell(x, "t0+010000;t0+010000;t0+010000;"), -2020);
        Said.is("out of range ahead of no room", Towns.tell(x, "f0+101;f0+101;o24;f0+101;"), -2014);
    }

    private static void allOrNothing() {
        Said.so("Without FAULT all of it comes, with one nothing.");
        String all = "f0+101;p00001+101;k01;t0+010000;o04;d3;r9;";
        int[] due = {1, 1, 1, 4, 3, 9, 1, 1};
        int[] first = {0, 0, 0, 15, 1, 4, 0, 0};
        for (String fault : new String[] {"", "?", "k", "r0;", "k00;", "f0+101;".repeat(6), "t0+010000;".repeat(3)}) {
            ThoughtBetterOf x = new ThoughtBetterOf();
            boolean well = Towns.tell(x, all + fault) > 0;
            Said.that("well or not: " + fault, well == fault.isEmpty());
            for (int what = 0; what < 8; what++) {
                Said.is("count(" + what + ") with " + fault, x.count(what), well ? due[what] : first[what]);
            }
        }
    }
}
