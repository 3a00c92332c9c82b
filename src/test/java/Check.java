/** What the tests share: comparing answers, telling texts to an object and reading its tables back. */
final class Check {
    private static int wrong = 0;
    private static int asked = 0;

    private Check() {
    }

    static void due(String what, long got, long want) {
        asked++;
        if (got != want) {
            wrong++;
            System.out.println(what + " answered " + got + ", due is " + want);
        }
    }

    static void due(String what, String got, String want) {
        asked++;
        if (!got.equals(want)) {
            wrong++;
            System.out.println(what + " is [" + got + "], due is [" + want + "]");
        }
    }

    static void end() {
        System.out.println(asked + " answers, " + wrong + " wrong");
        if (wrong != 0) {
            System.exit(1);
        }
    }

    static void tell(TableWays x, String text) {
        int before = x.count(0);
        for (int i = 0; i < text.length(); i += 20) {
            int[] five = new int[5];
            for (int k = 0; k < 20; k++) {
                int at = i + k;
                int one = at < text.length() ? text.charAt(at) & 255 : 0;
                five[k / 4] = five[k / 4] << 8 | one;
            }
            x.feed(five[0], five[1], five[2], five[3], five[4]);
        }
        x.end(before + text.length());
    }

    static int table(TableWays x, int t, String text) {
        tell(x, text);
        return x.table(t);
    }

    static int way(TableWays x, int w, String text) {
        tell(x, text);
        return x.way(w);
    }

    /** A table as its text. */
    static String read(TableWays x, int t) {
        StringBuilder s = new StringBuilder();
        for (int r = 0; r < x.size(t, 0); r++) {
            if (r > 0) {
                s.append(';');
            }
            for (int c = 0; c < x.size(t, 1); c++) {
                if (c > 0) {
                    s.append(',');
                }
                s.append(textOf(x.cell(t, r, c)));
            }
        }
        return s.toString();
    }

    static String textOf(long cell) {
        if (cell == -1) {
            return "?";
        }
        StringBuilder s = new StringBuilder();
        for (long rest = cell; rest != 0; rest >>>= 8) {
            s.insert(0, (char) (rest & 255));
        }
        return s.toString();
    }

    /** A way as its STEPS: number.a.b with blanks between. */
    static String readWay(TableWays x, int w) {
        StringBuilder s = new StringBuilder();
        for (int i = 0; i < x.steps(w); i++) {
            if (i > 0) {
                s.append(' ');
            }
            s.append(x.stepAt(w, i, 0)).append('.').append(x.stepAt(w, i, 1)).append('.').append(x.stepAt(w, i, 2));
        }
        return s.toString();
    }
}
