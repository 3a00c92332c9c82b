/** Promise 12: walk. */
public final class Promise12WalkTest {
    private static void walked() {
        Check.says("Promise 12", "WAY w is walked on TABLE t: TABLE to becomes what comes of it: how many rows");
        TableWays x = new TableWays();
        Check.table(x, 0, "k,x,y;a,1,2;b,3,4;c,5,6");
        Check.way(x, 7, "fold 1; sum 0 2;");
        Check.due("walk", x.walk(7, 0, 6), 3);
        Check.due("what comes of it", Check.read(x, 6), "a,3;b,7;c,11");
        Check.due("what it was walked on", Check.read(x, 0), "k,x,y;a,1,2;b,3,4;c,5,6");
        Check.due("the way", Check.readWay(x, 7), "6.1.0 11.0.2");
        Check.due("to itself", x.walk(7, 0, 0), 3);
        Check.due("to itself", Check.read(x, 0), "a,3;b,7;c,11");
        Check.way(x, 1, "repeat 6 {turn; turn;}");
        Check.due("twelve steps", x.walk(1, 0, 5), 3);
        Check.due("twelve steps", Check.read(x, 5), "a,3;b,7;c,11");
    }

    private static void noSteps() {
        Check.says("Promise 12", "TABLE to becomes what comes of it");
        TableWays x = new TableWays();
        Check.table(x, 4, "?,a;,b");
        Check.due("no STEPS", x.walk(3, 4, 5), 2);
        Check.due("no STEPS", Check.read(x, 5), "?,a;,b");
        Check.due("no STEPS to itself", x.walk(3, 4, 4), 2);
        Check.due("no STEPS to itself", Check.read(x, 4), "?,a;,b");
    }

    private static void stopped() {
        Check.says("Promise 12", "-10 and less: less 10 less the STEP, from 0 on, that CAN'T BE first");
        String[] can = new String[12];
        for (int n = 0; n < 12; n++) {
            StringBuilder text = new StringBuilder();
            for (int i = 0; i < 12; i++) {
                text.append(i < n ? "turn;" : "keep 0;");
            }
            can[n] = text.toString();
        }
        for (int n = 0; n < 12; n++) {
            TableWays x = new TableWays();
            Check.table(x, 0, "a,b;c,d");
            Check.table(x, 1, "kept");
            Check.due("way", Check.way(x, 2, can[n]), 12);
            Check.due("stopped at " + n, x.walk(2, 0, 1), -10 - n);
            Check.due("TABLE to stays", Check.read(x, 1), "kept");
            Check.due("TABLE t stays", Check.read(x, 0), "a,b;c,d");
            Check.due("stopped at " + n + " to itself", x.walk(2, 0, 0), -10 - n);
            Check.due("TABLE t stays", Check.read(x, 0), "a,b;c,d");
        }
        TableWays x = new TableWays();
        Check.table(x, 0, "a,?");
        Check.way(x, 0, "turn;");
        Check.due("stopped by ANY", x.walk(0, 0, 1), -10);
        Check.way(x, 0, "sum 1 1;");
        Check.table(x, 0, "1,1");
        Check.due("numbers that can be told but can't be", x.walk(0, 0, 1), -10);
        Check.way(x, 0, "drop 5;");
        Check.due("a column that isn't there", x.walk(0, 0, 1), -10);
    }

    private static void range() {
        Check.says("Promise 12", "RANGE");
        for (int i : Check.OFF_SHELF) {
            Check.refused("walk(" + i + ", 0, 1)", x -> x.walk(i, 0, 1), TableWays.RANGE);
            Check.refused("walk(0, " + i + ", 1)", x -> x.walk(0, i, 1), TableWays.RANGE);
            Check.refused("walk(0, 0, " + i + ")", x -> x.walk(0, 0, i), TableWays.RANGE);
            // a way that would be stopped, and one without STEPS
            Check.refused("walk(1, 7, " + i + ")", x -> x.walk(1, 7, i), TableWays.RANGE);
            Check.refused("walk(5, 0, " + i + ")", x -> x.walk(5, 0, i), TableWays.RANGE);
        }
    }

    public static void main(String[] args) {
        walked();
        noSteps();
        stopped();
        range();
        Check.end();
    }
}
