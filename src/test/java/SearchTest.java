/** Promises 16 to 19: finding, what was found, taking, and parting, by hand. */
public final class SearchTest {
    private static void found(TableWays x, String what, int ways, int states, int ends) {
        Check.due("ways of " + what, x.found(0), ways);
        Check.due("states of " + what, x.found(1), states);
        Check.due("ends of " + what, x.found(2), ends);
    }

    private static void ranges() {
        TableWays x = new TableWays();
        Check.table(x, 0, "a,b");
        Check.table(x, 1, "b,a");
        Check.due("find", x.find(0, 1, -1, -1, 1), 1);
        int states = x.found(1);
        int[][] wrong = {
            {8, 1, -1, -1, 1}, {-1, 1, -1, -1, 1}, {0, 8, -1, -1, 1}, {0, -1, -1, -1, 1}, {0, 1, 0, -1, 1},
            {0, 1, -1, 0, 1}, {0, 1, 8, 0, 1}, {0, 1, 0, 8, 1}, {0, 1, -2, -2, 1}, {0, 1, -2, -1, 1},
            {0, 1, -1, -2, 1}, {0, 1, -1, -1, -1}, {0, 1, -1, -1, 4}, {0, 1, 0, 1, 4},
        };
        for (int[] w : wrong) {
            Check.due("range of find", x.find(w[0], w[1], w[2], w[3], w[4]), TableWays.RANGE);
        }
        found(x, "the find ahead of RANGE", 1, states, 1);
        Check.due("another what", x.found(3), TableWays.NONE);
        Check.due("another what", x.found(-1), TableWays.NONE);
        Check.due("take", x.take(0, 7), 1);
        Check.due("take", Check.readWay(x, 7), "14.0.0");
        Check.due("range of take", x.take(0, 8), TableWays.RANGE);
        Check.due("range of take", x.take(-1, -1), TableWays.RANGE);
        Check.due("none such", x.take(1, 7), TableWays.NONE);
        Check.due("none such", x.take(-1, 7), TableWays.NONE);
        Check.due("none such leaves", Check.readWay(x, 7), "14.0.0");
    }

    private static void noSteps() {
        TableWays x = new TableWays();
        Check.table(x, 0, "a,?");
        Check.table(x, 1, "?,b");
        Check.way(x, 3, "turn;");
        Check.due("find", x.find(0, 1, -1, -1, 0), 0);
        found(x, "no steps", 1, 1, 1);
        Check.due("take", x.take(0, 3), 0);
        Check.due("take", x.steps(3), 0);
        Check.due("take", x.take(1, 3), TableWays.NONE);
        Check.table(x, 1, "b,a");
        Check.due("no step from ANY", x.find(0, 1, -1, -1, 3), TableWays.NONE);
        found(x, "no step from ANY", 0, 1, 0);
        Check.due("take", x.take(0, 3), TableWays.NONE);
        Check.table(x, 2, "a,b");
        Check.due("no step from a second ANY", x.find(2, 1, 0, 1, 3), TableWays.NONE);
        found(x, "no step from a second ANY", 0, 1, 0);
    }

    /** 3 DROPS, 8 JOINS or 3 COUNTS make two columns of three; 2 DROPS or 4 JOINS one of two. */
    private static void manyWays() {
        TableWays x = new TableWays();
        Check.table(x, 0, "a,b,c");
        Check.table(x, 1, "?");
        Check.due("too few steps", x.find(0, 1, -1, -1, 1), TableWays.NONE);
        Check.due("find", x.find(0, 1, -1, -1, 3), 2);
        Check.due("ways", x.found(0), 14 * 6);
        Check.due("take", x.take(0, 2), 2);
        Check.due("first", Check.readWay(x, 2), "2.0.0 2.0.0");
        x.take(1, 2);
        Check.due("second", Check.readWay(x, 2), "2.0.0 2.1.0");
        x.take(2, 2);
        Check.due("third", Check.readWay(x, 2), "2.0.0 5.0.0");
        x.take(18, 2);
        Check.due("first with JOIN", Check.readWay(x, 2), "5.0.0 2.0.0");
        Check.due("take the last told", x.take(59, 2), 2);
        Check.due("last told", Check.readWay(x, 2), "5.1.2 5.0.3");
        Check.due("only 60 are told", x.take(60, 2), TableWays.NONE);
        Check.table(x, 0, "q");
        Check.due("what was found stays", x.take(59, 3), 2);
        Check.due("what was found stays", Check.readWay(x, 3), "5.1.2 5.0.3");
    }

    private static void twoExamples() {
        TableWays x = new TableWays();
        Check.table(x, 0, "a,a");
        Check.table(x, 1, "a");
        Check.due("one example", x.find(0, 1, -1, -1, 1), 1);
        Check.due("one example", x.found(0), 2);
        Check.table(x, 2, "b,c");
        Check.table(x, 3, "c");
        Check.due("a second one", x.find(0, 1, 2, 3, 1), 1);
        found(x, "a second one", 1, x.found(1), 1);
        x.take(0, 0);
        Check.due("a second one", Check.readWay(x, 0), "2.0.0");
        Check.table(x, 2, "b");
        Check.due("a STEP must be on both", x.find(0, 1, 2, 2, 1), TableWays.NONE);
        Check.due("a STEP must be on both", x.find(2, 2, 0, 1, 1), TableWays.NONE);
    }

    /** Tables of six columns have many STEPS: the STATES don't last. */
    private static void full() {
        TableWays x = new TableWays();
        Check.table(x, 0, "a,b,c,d,e,f;1,2,3,4,5,6;a,x,,1,2,3");
        Check.table(x, 1, "zzz");
        Check.due("find", x.find(0, 1, -1, -1, 3), TableWays.FULL);
        found(x, "full", 0, 1500, 0);
        Check.due("take", x.take(0, 0), TableWays.NONE);
        Check.due("two steps last", x.find(0, 1, -1, -1, 1), TableWays.NONE);
        // an end comes early among the STATES of three STEPS, but not all of these have room
        Check.table(x, 1, "?,?,?,?;?,?,?,?;?,?,?,?");
        Check.due("find", x.find(0, 1, -1, -1, 3), 2);
        Check.table(x, 1, "?,?,?;?,?,?;?,?,?");
        Check.due("find", x.find(0, 1, -1, -1, 3), TableWays.FULL);
        Check.due("ways", x.found(0), 0);
        Check.due("states", x.found(1), 1500);
        Check.due("ends are told of the STATES there are", x.found(2) > 0 ? 1 : 0, 1);
        Check.due("take", x.take(0, 0), TableWays.NONE);
    }

    private static int part(String w, String v, int c, int r, String table) {
        TableWays x = new TableWays();
        Check.way(x, 0, w);
        Check.way(x, 1, v);
        Check.table(x, 2, "kept");
        int answer = x.part(0, 1, c, r, 2);
        Check.due("table of part " + w + " " + v, Check.read(x, 2), table);
        Check.due("ways are kept", x.part(0, 1, c, r, 3), answer);
        return answer;
    }

    private static void parts() {
        Check.due("stopped or not", part("head;", "", 1, 1, ""), 1);
        Check.due("both stopped", part("head;", "drop 0;", 1, 1, "kept"), -1);
        Check.due("turned", part("turn;", "", 1, 1, "kept"), -1);
        Check.due("turned", part("turn;", "", 1, 2, ";"), 7);
        Check.due("turned", part("turn;", "", 2, 1, ","), 1);
        Check.due("first with a mark", part("split 0 -; join 0 -;", "keep 0;", 1, 1, "a-b"), 4);
        Check.due("last cell fastest", part("split 1 -;", "keep 3;", 2, 1, ",a-b"), 4);
        Check.due("order", part("swap 0;", "", 2, 1, ",a"), 2);
        Check.due("order", part("swap 0;", "", 2, 2, ",a"), 2);
        Check.due("two rows", part("sort 0;", "head; turn; turn; keep 1; ", 1, 2, "a;"), 6 + 7);
        Check.due("42 and no more", part("", "", 1, 2, "kept"), -1);
        Check.due("36", part("", "", 2, 1, "kept"), -1);
        Check.due("216", part("", "", 3, 1, "kept"), -1);
        Check.due("1332 are more than 1000", part("", "", 2, 2, "kept"), TableWays.FULL);
        Check.due("46872 are more than 1000", part("turn;turn;", "", 3, 2, "kept"), TableWays.FULL);
        TableWays x = new TableWays();
        int[][] wrong = {
            {8, 0, 1, 1, 0}, {-1, 0, 1, 1, 0}, {0, 8, 1, 1, 0}, {0, -1, 1, 1, 0}, {0, 0, 0, 1, 0}, {0, 0, 4, 1, 0},
            {0, 0, 1, 0, 0}, {0, 0, 1, 3, 0}, {0, 0, 1, 1, 8}, {0, 0, 1, 1, -1},
        };
        for (int[] w : wrong) {
            Check.due("range of part", x.part(w[0], w[1], w[2], w[3], w[4]), TableWays.RANGE);
        }
    }

    public static void main(String[] args) {
        ranges();
        noSteps();
        manyWays();
        twoExamples();
        full();
        parts();
        Check.end();
    }
}
