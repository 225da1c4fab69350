/** Objects with a town told by its text, for tests. */
final class Towns {
    static final int TEXT_SHELF = 7;

    private Towns() {
    }

    /** A new object with a town; the text may be longer than a row, it is told in parts. */
    static ThoughtBetterOf of(String text) {
        ThoughtBetterOf x = new ThoughtBetterOf();
        StringBuilder part = new StringBuilder();
        for (String statement : text.split("(?<=;)")) {
            if (part.length() + statement.length() > 100) {
                tellAll(x, part.toString());
                part.setLength(0);
            }
            part.append(statement);
        }
        if (part.length() > 0) {
            tellAll(x, part.toString());
        }
        tellFaulty(x);
        return x;
    }

    /** Another town with a fault: nothing of it may be seen in what is asked afterwards. */
    private static void tellFaulty(ThoughtBetterOf x) {
        int answer = tell(x, "o22;d8;r9;k01;k02;k03;k12;k13;k23;p00000-999;f0-900;t0-600000;r0;");
        if (answer > -2034) {
            throw new IllegalStateException("the faulty town answered " + answer);
        }
        x.keep(TEXT_SHELF, 0, 0, 0);
    }

    private static void tellAll(ThoughtBetterOf x, String text) {
        int answer = tell(x, text);
        if (answer < 0) {
            throw new IllegalArgumentException(text + " is not a town: " + answer);
        }
        x.keep(TEXT_SHELF, 0, 0, 0);
    }

    /** What town() answers to a text of at most 100 bytes. */
    static int tell(ThoughtBetterOf x, String text) {
        x.row(TEXT_SHELF, 0, text.length());
        for (int i = 0; i < text.length(); i++) {
            x.put(TEXT_SHELF, i, text.charAt(i));
        }
        return x.town(TEXT_SHELF);
    }

    /** A row of a sort on a shelf. */
    static void row(ThoughtBetterOf x, int d, int sort, int... values) {
        x.row(d, sort, values.length);
        for (int i = 0; i < values.length; i++) {
            x.put(d, i, values[i]);
        }
    }

    /** What there is, as far as it can be told: shelves, too, but not what restore() would bring. */
    static String told(ThoughtBetterOf x) {
        StringBuilder all = new StringBuilder("counts ");
        for (int what = 0; what < 8; what++) {
            all.append(x.count(what)).append(' ');
        }
        for (int p = 0; p < x.count(0); p++) {
            all.append("one ");
            for (int what = 0; what < 7; what++) {
                all.append(x.person(p, what)).append(' ');
            }
        }
        for (int f = 0; f < x.count(1); f++) {
            all.append("fact ");
            for (int what = 0; what < 4; what++) {
                all.append(x.about(f, what)).append(' ');
            }
        }
        all.append("market ");
        for (int hour = 0; hour < 24; hour++) {
            all.append(x.market(hour)).append(' ');
        }
        all.append("kin ");
        for (int pair = 0; pair < 6; pair++) {
            int a = "000112".charAt(pair) - '0';
            int b = "123233".charAt(pair) - '0';
            x.kin(a, b);
            all.append(x.kin(a, b));
        }
        for (int d = 0; d < 8; d++) {
            all.append(" shelf ").append(x.cost(d)).append(' ').append(x.toss(d));
            if (x.cost(d) == -12) {
                all.append(elements(x, d));
            }
        }
        return all.toString();
    }

    private static String elements(ThoughtBetterOf x, int d) {
        StringBuilder all = new StringBuilder();
        try {
            for (int i = 0; i < 100; i++) {
                all.append(' ').append(x.element(d, i));
            }
        } catch (IllegalStateException behindTheLast) {
            all.append('.');
        }
        return all.toString();
    }
}
