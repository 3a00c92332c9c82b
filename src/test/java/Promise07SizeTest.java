/** Promise 7: size. */
public final class Promise07SizeTest {
    private static void sizes(String text, int rows, int columns, int empty, int numbers, int anys) {
        TableWays x = new TableWays();
        Check.table(x, 7, text);
        Check.due("rows of " + text, x.size(7, 0), rows);
        Check.due("columns of " + text, x.size(7, 1), columns);
        Check.due("empty cells of " + text, x.size(7, 2), empty);
        Check.due("numbers of " + text, x.size(7, 3), numbers);
        Check.due("anys of " + text, x.size(7, 4), anys);
    }

    private static void what() {
        Check.says("Promise 7", "what 0: rows, 1: columns, 2: empty cells, 3: NUMBERS, 4: ANYS");
        sizes("", 1, 1, 1, 0, 0);
        sizes("a", 1, 1, 0, 0, 0);
        sizes("a,1,?;,123456,;1234567,1-2,?;0,,?", 4, 3, 3, 3, 3);
        sizes("?,?,?,?,?,?", 1, 6, 0, 0, 6);
        sizes("1;2;3;4;5;6;7;8;9;10;11;12", 12, 1, 0, 12, 0);
        String row = ",,,,,";
        String text = row;
        for (int r = 1; r < 12; r++) {
            text = text + ";" + row;
        }
        sizes(text, 12, 6, 72, 0, 0);
        sizes(text.replace(",;", ",?;"), 12, 6, 61, 0, 11);
    }

    /** Cells that a larger table left behind aren't counted. */
    private static void smallerThanBefore() {
        Check.says("Promise 7", "Of TABLE t");
        TableWays x = new TableWays();
        Check.table(x, 0, ",1,?;,1,?;,1,?");
        Check.table(x, 0, "a,b");
        Check.due("rows", x.size(0, 0), 1);
        Check.due("columns", x.size(0, 1), 2);
        for (int what = 2; what <= 4; what++) {
            Check.due("cells of kind " + what, x.size(0, what), 0);
        }
    }

    private static void noneSuch() {
        Check.says("Promise 7", "NONE when there is none such");
        for (int t : Check.OFF_SHELF) {
            for (int what = -1; what <= 5; what++) {
                Check.due("size(" + t + ", " + what + ")", Check.furnished().size(t, what), TableWays.NONE);
            }
        }
        for (int what : new int[] {-1, 5, 6, Integer.MIN_VALUE, Integer.MAX_VALUE}) {
            Check.due("size(0, " + what + ")", Check.furnished().size(0, what), TableWays.NONE);
        }
    }

    public static void main(String[] args) {
        what();
        smallerThanBefore();
        noneSuch();
        Check.end();
    }
}
