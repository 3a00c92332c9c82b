/** Promise 19: part, and the LISTED tables of Term III. */
public final class Promise19PartTest {
    /** Always stopped on LISTED tables. */
    private static final String NEVER = "drop 5;";

    private static void part(String w, String v, int c, int r, int due, String table) {
        TableWays x = new TableWays();
        Check.way(x, 0, w);
        Check.way(x, 1, v);
        Check.table(x, 2, "kept");
        String what = "part of " + w + " and " + v + " on " + c + ", " + r;
        Check.due(what, x.part(0, 1, c, r, 2), due);
        Check.due("table of " + what, Check.read(x, 2), due > 0 ? table : "kept");
        Check.due(what + " the other way about", x.part(1, 0, c, r, 3), due);
        Check.due("table of it", Check.read(x, 3), due > 0 ? table : "");
        Check.due("ways stay", x.count(1), x.steps(0) + x.steps(1));
        Check.due("other tables stay", Check.read(x, 0), "");
    }

    private static void listed() {
        Check.says("Term III", "of 1 row, then of 2");
        part("turn;", "", 1, 2, 7, ";");
        part("turn;", "", 2, 2, 1, ",");
        part("single;", NEVER, 2, 2, 37, ",;,");
        part("single;", NEVER, 3, 2, 217, ",,;,,");
        Check.says("Term III", "empty, a, b, a-b, 1, 2");
        part("head;", "", 1, 1, 1, "");
        part("count 0; turn; sort 0;", NEVER, 1, 1, 2, "a");
        part("split 0 -;", NEVER, 1, 1, 4, "a-b");
        part("count 0; sum 1 0;", NEVER, 1, 1, 5, "1");
        part("count 0; sum 1 0;", "count 0; sum 1 0; swap 0;", 1, 1, 6, "2");
        Check.says("Term III", "in order, the last cell fastest");
        part("swap 0;", "", 2, 1, 2, ",a");
        part("turn; sort 0;", NEVER, 2, 1, 7, "a,");
        // b stands ahead of a-b in the row of texts: this is the first that has it ahead of something smaller
        part("turn; sort 0; split 0 -;", NEVER, 2, 1, 2 * 6 + 3 + 1, "b,a-b");
        part("split 1 -;", NEVER, 2, 1, 4, ",a-b");
        part("split 0 -;", NEVER, 2, 1, 19, "a-b,");
        part("split 0 -;", NEVER, 3, 1, 3 * 36 + 1, "a-b,,");
        Check.says("Term III", "their cells, row by row");
        part("sort 0;", NEVER, 1, 2, 6 + 7, "a;");
        part("head; split 0 -;", NEVER, 1, 2, 6 + 4, ";a-b");
        part("sort 1;", NEVER, 2, 2, 36 + 37, ",a;,");
    }

    private static void rowsAtMost() {
        Check.says("Promise 19", "on LISTED tables of c columns (1 .. 3) and at most r rows (1, 2)");
        part("single;", NEVER, 1, 1, TableWays.NONE, "");
        part("single;", NEVER, 1, 2, 7, ";");
        part("single;", NEVER, 2, 1, TableWays.NONE, "");
        part("single;", NEVER, 3, 1, TableWays.NONE, "");
        part("drop 0;", NEVER, 1, 2, TableWays.NONE, "");
        part("drop 1;", NEVER, 2, 1, 1, ",");
        part("drop 2;", NEVER, 2, 1, TableWays.NONE, "");
        part("drop 2;", NEVER, 3, 1, 1, ",,");
        part("drop 3;", NEVER, 3, 1, TableWays.NONE, "");
    }

    private static void partOrNot() {
        Check.says("Promise 19", "one is stopped and the other is not");
        part("head;", "", 1, 1, 1, "");
        part("head;", "drop 0;", 1, 1, TableWays.NONE, "");
        part("head;", "turn; turn; head;", 3, 1, TableWays.NONE, "");
        part("turn; turn; split 0 -;", "turn;", 1, 1, 1, "");
        Check.says("Promise 19", "or what comes of it isn't the same cell by cell");
        part("turn;", "", 1, 1, TableWays.NONE, "");
        part("swap 0; swap 0;", "", 3, 1, TableWays.NONE, "");
        part("join 0 -; split 0 -;", "", 2, 1, 3 * 6 + 1, "a-b,");
        part("count 0;", "count 0; swap 0; swap 0;", 1, 2, TableWays.NONE, "");
        part("count 0;", "count 0; swap 0;", 1, 1, 1, "");
        part("turn;", "drop 0;", 2, 1, 1, ",");
        // as many rows, and the cells of the smaller one are the larger one's first
        part("drop 1;", "", 2, 1, 1, ",");
        part("turn; drop 1; turn;", "", 1, 2, 1, "");
        part("head;", "drop 5;", 1, 2, 7, ";");
        // the first cell alone, and the last one alone
        part("count 0; drop 0;", "", 1, 1, 1, "");
        part("count 0; drop 1; count 0;", "count 0; drop 0; count 0;", 1, 1, 1, "");
        part("drop 1; count 0;", "", 2, 1, 1, ",");
        part("count 0; turn; count 0; drop 0; turn;", "count 0; drop 0; count 0;", 1, 1, 5, "1");
    }

    private static void itToo() {
        Check.says("Promise 19", "how many tables were tried, it too");
        part("turn; single; count 0; sum 1 0;", "turn; single; count 0; sum 1 0; swap 0;", 2, 1, 36, "2,2");
        part("single; count 0; sum 1 0;", "single; count 0; sum 1 0; swap 0;", 1, 2, 42, "2;2");
        Check.says("Promise 19", "NONE: on none");
        part("", "", 1, 1, TableWays.NONE, "");
        part("", "", 1, 2, TableWays.NONE, "");
        part("", "", 2, 1, TableWays.NONE, "");
        part("", "", 3, 1, TableWays.NONE, "");
        part("turn; turn;", "", 3, 1, TableWays.NONE, "");
    }

    private static void full() {
        Check.says("Promise 19", "FULL: 1000 were tried, and there are more");
        part("", "", 2, 2, TableWays.FULL, "");
        part("turn; turn;", "", 3, 2, TableWays.FULL, "");
        // needs numbers in column 0, a - in column 1, and that one out of its order: first so in the 1000th
        part("sort 1; split 1 -; sum 1 0;", NEVER, 2, 2, 1000, "1,b;1,a-b");
        // first done on ",,a-b;a-b,1,1", which would be the 1001st
        part("split 2 -; head; split 0 -; drop 0; drop 0; drop 2; sum 0 1; sum 1 0;", NEVER, 3, 2, TableWays.FULL, "");
    }

    /** That the way above is done on the table that would be the 1001st: 216 of one row, and 784 ahead of it. */
    private static void theNextOne() {
        Check.says("Promise 19", "and there are more");
        TableWays x = new TableWays();
        Check.way(x, 0, "split 2 -; head; split 0 -; drop 0; drop 0; drop 2; sum 0 1; sum 1 0;");
        Check.table(x, 0, ",,a-b;a-b,1,1");
        Check.due("walk on the 1001st", x.walk(0, 0, 1), 1);
        Check.table(x, 0, ",,a-b;a-b,1,a-b");
        Check.due("walk on the 1000th", x.walk(0, 0, 1), -16);
        int[] digits = {0, 0, 3, 3, 4, 4};
        int at = 0;
        for (int d : digits) {
            at = 6 * at + d;
        }
        Check.due("its place", 216 + at + 1, 1001);
    }

    private static void range() {
        Check.says("Promise 19", "RANGE");
        for (int i : Check.OFF_SHELF) {
            Check.refused("part of WAY " + i, x -> x.part(i, 0, 1, 1, 0), TableWays.RANGE);
            Check.refused("part with WAY " + i, x -> x.part(0, i, 1, 1, 0), TableWays.RANGE);
            Check.refused("part into TABLE " + i, x -> x.part(0, 1, 1, 1, i), TableWays.RANGE);
            Check.refused("part of one way into TABLE " + i, x -> x.part(0, 0, 1, 1, i), TableWays.RANGE);
        }
        for (int c : new int[] {0, -1, 4, 5, 6, Integer.MIN_VALUE, Integer.MAX_VALUE}) {
            Check.refused("part on " + c + " columns", x -> x.part(0, 1, c, 1, 0), TableWays.RANGE);
        }
        for (int r : new int[] {0, -1, 3, 4, 12, Integer.MIN_VALUE, Integer.MAX_VALUE}) {
            Check.refused("part on " + r + " rows", x -> x.part(0, 1, 1, r, 0), TableWays.RANGE);
        }
        Check.refused("part that is NONE", x -> x.part(0, 0, 1, 1, 0), TableWays.NONE);
        Check.refused("part that is FULL", x -> x.part(0, 0, 3, 2, 0), TableWays.FULL);
    }

    public static void main(String[] args) {
        listed();
        rowsAtMost();
        partOrNot();
        itToo();
        full();
        theNextOne();
        range();
        Check.end();
    }
}
