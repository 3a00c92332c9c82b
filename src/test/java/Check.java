/** What the tests share: comparing answers, telling texts to an object and reading its tables back. */
final class Check {
    /** Numbers that no TABLE and no WAY has. */
    static final int[] OFF_SHELF = {-1, 8, -2, 9, 256, Integer.MIN_VALUE, Integer.MAX_VALUE};

    private static int wrong = 0;
    private static int asked = 0;
    private static int sentences = 0;
    private static String sentence = "";

    /** A call that is asked of more than one object. */
    interface Call {
        long on(TableWays x);
    }

    private Check() {
    }

    /** Words of the document: the answers from here on are asked for their sake. */
    static void says(String where, String words) {
        sentences++;
        sentence = where + ", \"" + words + "\": ";
    }

    static void due(String what, long got, long want) {
        asked++;
        if (got != want) {
            wrong++;
            System.out.println(sentence + what + " answered " + got + ", due is " + want);
        }
    }

    static void due(String what, String got, String want) {
        asked++;
        if (!got.equals(want)) {
            wrong++;
            System.out.println(sentence + what + " is [" + got + "], due is [" + want + "]");
        }
    }

    static void end() {
        System.out.println((sentences > 0 ? sentences + " sentences, " : "") + asked + " answers, " + wrong + " wrong");
        if (wrong != 0) {
            System.exit(1);
        }
    }

    static void tell(TableWays x, String text) {
        int before = x.count(0);
        for (int i = 0; i < text.length(); i += 20) {
            int[] five = new int[5];
            for (int k = 0; k < 20; k++) {
                int at = i + k;
                int one = at < text.length() ? text.charAt(at) & 255 : 0;
                five[k / 4] = five[k / 4] << 8 | one;
            }
            x.feed(five[0], five[1], five[2], five[3], five[4]);
        }
        x.end(before + text.length());
    }

    static int table(TableWays x, int t, String text) {
        tell(x, text);
        return x.table(t);
    }

    /** An object whose first tables have these texts. */
    static TableWays with(String... tables) {
        TableWays x = new TableWays();
        for (int t = 0; t < tables.length; t++) {
            table(x, t, tables[t]);
        }
        return x;
    }

    static int way(TableWays x, int w, String text) {
        tell(x, text);
        return x.way(w);
    }

    /** A table as its text. */
    static String read(TableWays x, int t) {
        StringBuilder s = new StringBuilder();
        int rows = x.size(t, 0);
        int columns = x.size(t, 1);
        for (int r = 0; r < rows; r++) {
            if (r > 0) {
                s.append(';');
            }
            for (int c = 0; c < columns; c++) {
                if (c > 0) {
                    s.append(',');
                }
                s.append(textOf(x.cell(t, r, c)));
            }
        }
        return s.toString();
    }

    static String textOf(long cell) {
        if (cell == -1) {
            return "?";
        }
        StringBuilder s = new StringBuilder();
        for (long rest = cell; rest != 0; rest >>>= 8) {
            s.insert(0, (char) (rest & 255));
        }
        return s.toString();
    }

    /** A way as its STEPS: number.a.b with blanks between. */
    static String readWay(TableWays x, int w) {
        StringBuilder s = new StringBuilder();
        int steps = x.steps(w);
        for (int i = 0; i < steps; i++) {
            if (i > 0) {
                s.append(' ');
            }
            s.append(x.stepAt(w, i, 0)).append('.').append(x.stepAt(w, i, 1)).append('.').append(x.stepAt(w, i, 2));
        }
        return s.toString();
    }

    /** All that can be read of an object but for the tape. */
    static String all(TableWays x) {
        StringBuilder s = new StringBuilder();
        for (int i = 0; i < 8; i++) {
            s.append(read(x, i)).append(" | ").append(readWay(x, i)).append('\n');
        }
        s.append(x.fault(0)).append(' ').append(x.fault(1)).append(' ').append(x.count(1));
        return s.append(' ').append(x.found(0)).append(' ').append(x.found(1)).append(' ').append(x.found(2)).toString();
    }

    /** An object with something in all its parts: tables, ways, a FAULT, what was found, and "a,b" on the tape. */
    static TableWays furnished() {
        TableWays x = new TableWays();
        table(x, 0, "a,b;c,d");
        table(x, 1, "a,1;b,2;a,3");
        table(x, 2, "?,b;c,?");
        table(x, 3, "b,a;d,c");
        table(x, 7, "z");
        way(x, 0, "turn;");
        way(x, 1, "drop 1; head;");
        way(x, 2, "repeat 6 {turn; turn;}");
        way(x, 7, "swap 0;");
        x.find(0, 3, TableWays.NONE, TableWays.NONE, 1);
        way(x, 6, "drop 9;");
        tell(x, "a,b");
        return x;
    }

    /** A call that is refused: its answer, and that it leaves all there is, the tape too. */
    static void refused(String what, Call call, long want) {
        TableWays x = furnished();
        String before = all(x);
        due(what, call.on(x), want);
        due("what " + what + " leaves", all(x), before);
        due("the tape that " + what + " leaves", x.count(0), 3);
        x.table(5);
        due("the tape that " + what + " leaves", read(x, 5), "a,b");
    }
}
