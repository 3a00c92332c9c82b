/** Promise 11: step; what each STEP makes stands in Term2StepsTest. */
public final class Promise11StepTest {
    private static void rows() {
        Check.says("Promise 11", "A STEP is done on TABLE t: how many rows it has then");
        for (int t = 0; t < 8; t++) {
            TableWays x = new TableWays();
            Check.table(x, t, "a,b;c,d;e,f");
            Check.due("HEAD on " + t, x.step(t, 13, 0, 0), 2);
            for (int other = 0; other < 8; other++) {
                Check.due("table " + other, Check.read(x, other), other == t ? "c,d;e,f" : "");
            }
            Check.due("HEAD on " + t, x.step(t, 13, 0, 0), 1);
            Check.due("no HEAD on " + t, x.step(t, 13, 0, 0), TableWays.NONE);
            Check.due("TURN on " + t, x.step(t, 1, 0, 0), 2);
            Check.due("table " + t, Check.read(x, t), "e;f");
        }
    }

    private static void noSuchTable() {
        Check.says("Promise 11", "RANGE: no such TABLE");
        for (int t : Check.OFF_SHELF) {
            for (int step = 0; step <= 15; step++) {
                int s = step;
                Check.refused("step(" + t + ", " + s + ", 0, 0)", x -> x.step(t, s, 0, 0), TableWays.RANGE);
            }
        }
    }

    private static void noSuchStep() {
        Check.says("Promise 11", "STEP's number not 1 .. 14");
        for (int s : new int[] {0, 15, -1, 16, -14, 257, Integer.MIN_VALUE, Integer.MAX_VALUE}) {
            Check.refused("step(0, " + s + ", 0, 0)", x -> x.step(0, s, 0, 0), TableWays.RANGE);
            Check.refused("step(2, " + s + ", 9, 9)", x -> x.step(2, s, 9, 9), TableWays.RANGE);
        }
        for (int step = 1; step <= 14; step++) {
            int s = step;
            Check.refused("step(0, " + s + ", 9, 9)", x -> x.step(0, s, 9, 9), TableWays.NONE);
        }
    }

    private static void cannotBe() {
        Check.says("Promise 11", "NONE: it CAN'T BE");
        int[][] numbers = {{1, 1, 0}, {2, 2, 0}, {3, 0, 0}, {4, 0, 0}, {5, 1, 0}, {6, 2, 0}, {7, 0, 0}, {8, 0, 0},
            {9, 0, 0}, {10, 2, 0}, {11, 0, 1}, {12, 0, 0}, {13, 0, 1}, {14, 1, 0}};
        for (int[] n : numbers) {
            String what = "step(0, " + n[0] + ", " + n[1] + ", " + n[2] + ")";
            Check.refused(what, x -> x.step(0, n[0], n[1], n[2]), TableWays.NONE);
        }
    }

    public static void main(String[] args) {
        rows();
        noSuchTable();
        noSuchStep();
        cannotBe();
        Check.end();
    }
}
