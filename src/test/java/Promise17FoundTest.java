/** Promise 17: found. */
public final class Promise17FoundTest {
    private static final int NO = TableWays.NONE;

    private static void is(TableWays x, String what, int ways, int states, int ends) {
        Check.due("ways " + what, x.found(0), ways);
        Check.due("STATES " + what, x.found(1), states);
        Check.due("ends " + what, x.found(2), ends);
    }

    /** Of "a,b" one STEP makes a;b  b  a  a-b a:b a/b a.b  a,1 b,1  b,a: eleven STATES with it. */
    private static void what() {
        Check.says("Promise 17", "1: STATES, 2: how many of these are ends");
        TableWays x = new TableWays();
        is(x, "ahead of any", 0, 0, 0);
        Check.table(x, 0, "a,b");
        Check.table(x, 1, "?,?");
        Check.due("find", x.find(0, 1, NO, NO, 3), 0);
        is(x, "at the beginning", 1, 1, 1);
        Check.table(x, 1, "?");
        Check.due("find", x.find(0, 1, NO, NO, 3), 1);
        is(x, "to one cell", 6, 11, 6);
        Check.table(x, 1, "b,a");
        Check.due("find", x.find(0, 1, NO, NO, 3), 1);
        is(x, "to the last STATE", 1, 11, 1);
        Check.table(x, 0, "a,a");
        Check.table(x, 1, "a");
        Check.due("find", x.find(0, 1, NO, NO, 3), 1);
        // DROP 0 and DROP 1 make one STATE: a;a  a  a-a a:a a/a a.a  a,1
        is(x, "two to one end", 2, 8, 1);
    }

    private static void without() {
        Check.says("Promise 17", "0 without");
        TableWays x = new TableWays();
        Check.table(x, 0, "a,b");
        Check.table(x, 1, "zz");
        Check.table(x, 2, "b,a");
        x.find(0, 2, NO, NO, 1);
        is(x, "ahead of it", 1, 11, 1);
        Check.due("find", x.find(0, 1, NO, NO, 1), NO);
        is(x, "without", 0, 11, 0);
        Check.due("find", x.find(0, 1, NO, NO, 0), NO);
        is(x, "without a STEP", 0, 1, 0);
        Check.table(x, 0, "b,,2,b");
        x.find(2, 2, NO, NO, 0);
        Check.due("find", x.find(0, 1, NO, NO, 3), TableWays.FULL);
        is(x, "when it is FULL", 0, 1500, 0);
    }

    /**
     * Three STEPS have fewer than 410000 rows of STEPS (NOTES.md), so none comes to 1000000; but none may be
     * lost below it.
     */
    private static void many() {
        Check.says("Promise 17", "1000000 of as many or more");
        TableWays x = new TableWays();
        Check.table(x, 0, "a,a,a,a,a,a");
        Check.table(x, 1, "?,?,?,?");
        Check.due("find", x.find(0, 1, NO, NO, 3), 2);
        Check.due("DROP or JOIN twice", x.found(0), (6 + 20) * (5 + 16));
        // a JOIN makes seven bytes, so that what was joined can't be joined again
        Check.table(x, 0, "abc,abc,abc,abc,abc,abc");
        Check.table(x, 1, "?,?,?");
        Check.due("find", x.find(0, 1, NO, NO, 3), 3);
        Model.Finding due = Model.find("abc,abc,abc,abc,abc,abc", "?,?,?", null, null, 3);
        is(x, "in thousands", due.ways, due.states, due.ends);
        Check.due("thousands", x.found(0), 3737);
    }

    private static void latest() {
        Check.says("Promise 17", "Of the latest find() that wasn't RANGE");
        TableWays x = new TableWays();
        Check.table(x, 0, "a,b");
        Check.table(x, 1, "?");
        x.find(0, 1, NO, NO, 1);
        for (int i : Check.OFF_SHELF) {
            Check.due("find from " + i, x.find(i, 1, NO, NO, 3), TableWays.RANGE);
            is(x, "behind RANGE", 6, 11, 6);
        }
        Check.due("find of 4", x.find(0, 1, NO, NO, 4), TableWays.RANGE);
        Check.due("find of a second from none", x.find(0, 1, NO, 0, 3), TableWays.RANGE);
        is(x, "behind RANGE", 6, 11, 6);
        x.step(0, 1, 0, 0);
        Check.table(x, 1, "q");
        x.take(3, 0);
        x.part(0, 1, 2, 2, 3);
        is(x, "over other calls", 6, 11, 6);
        x.find(0, 0, NO, NO, 0);
        is(x, "of the next", 1, 1, 1);
    }

    private static void anotherWhat() {
        Check.says("Promise 17", "NONE for another what");
        for (int what : new int[] {-1, 3, 4, Integer.MIN_VALUE, Integer.MAX_VALUE}) {
            Check.refused("found(" + what + ")", x -> x.found(what), NO);
            Check.due("found(" + what + ") ahead of any", new TableWays().found(what), NO);
        }
    }

    public static void main(String[] args) {
        what();
        without();
        many();
        latest();
        anotherWhat();
        Check.end();
    }
}
