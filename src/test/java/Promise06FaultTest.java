/** Promise 6: fault. */
public final class Promise06FaultTest {
    private static void is(TableWays x, String what, int kind, int place) {
        Check.due("kind " + what, x.fault(0), kind);
        Check.due("place " + what, x.fault(1), place);
    }

    private static void aheadOfAny() {
        Check.says("Promise 6", "0 without (and ahead of any)");
        TableWays x = new TableWays();
        is(x, "ahead of any text", 0, TableWays.NONE);
        x.table(0);
        is(x, "of an empty table", 0, TableWays.NONE);
        x.way(0);
        is(x, "of an empty way", 0, TableWays.NONE);
    }

    private static void latest() {
        Check.says("Promise 6", "Of the latest text that table() or way() read");
        TableWays x = new TableWays();
        Check.way(x, 0, " turn");
        is(x, "of a way", 1, 5);
        Check.table(x, 0, "abc,abcdefgh");
        is(x, "of the table behind it", 2, 11);
        Check.way(x, 0, "drop 1; fill 7;");
        is(x, "of the way behind it", 2, 13);
        Check.table(x, 0, "a");
        is(x, "of a table without", 0, TableWays.NONE);
        Check.table(x, 0, "A");
        is(x, "at the first byte", 1, 0);
        Check.way(x, 0, "turn;");
        is(x, "of a way without", 0, TableWays.NONE);
    }

    private static void rangeAside() {
        Check.says("Promise 6", "(RANGE aside)");
        for (int i : Check.OFF_SHELF) {
            TableWays x = new TableWays();
            Check.table(x, i, "A");
            is(x, "ahead of any but RANGE", 0, TableWays.NONE);
            Check.way(x, 0, "drop 9;");
            Check.table(x, i, "A");
            is(x, "behind a table's RANGE", 2, 5);
            Check.table(x, i, "a");
            is(x, "behind a table's RANGE", 2, 5);
            Check.way(x, i, "}");
            is(x, "behind a way's RANGE", 2, 5);
            Check.way(x, i, "turn;");
            is(x, "behind a way's RANGE", 2, 5);
            Check.way(x, 0, "turn;");
            Check.way(x, i, "}");
            is(x, "without one, behind RANGE", 0, TableWays.NONE);
        }
    }

    private static void otherCalls() {
        Check.says("Promise 6", "Of the latest text");
        TableWays x = Check.furnished();
        x.feed(0, 0, 0, 0, 0);
        x.end(999);
        x.step(0, 15, 0, 0);
        x.step(0, 2, 5, 0);
        x.walk(1, 7, 0);
        x.chain(2, 2, 2);
        x.find(0, 1, TableWays.NONE, 0, 0);
        x.take(100, 0);
        x.part(0, 1, 9, 9, 9);
        is(x, "over refused calls that read no text", 2, 5);
    }

    private static void anotherWhat() {
        Check.says("Promise 6", "NONE for another what");
        for (int what : new int[] {-1, 2, 3, Integer.MIN_VALUE, Integer.MAX_VALUE}) {
            Check.due("fault(" + what + ") ahead of any", new TableWays().fault(what), TableWays.NONE);
            Check.due("fault(" + what + ")", Check.furnished().fault(what), TableWays.NONE);
        }
    }

    public static void main(String[] args) {
        aheadOfAny();
        latest();
        rangeAside();
        otherCalls();
        anotherWhat();
        Check.end();
    }
}
