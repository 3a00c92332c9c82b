/** Promise 14: stepAt. */
public final class Promise14StepAtTest {
    private static void what() {
        Check.says("Promise 14", "what 0: its number, 1: a, 2: b");
        TableWays x = new TableWays();
        Check.way(x, 3, "sum 4 5; join 2 .; head; swap 5; turn; sum 0 0;");
        int[][] due = {{11, 4, 5}, {5, 2, 3}, {13, 0, 0}, {14, 5, 0}, {1, 0, 0}, {11, 0, 0}};
        for (int i = 0; i < due.length; i++) {
            for (int what = 0; what < 3; what++) {
                Check.due("stepAt(3, " + i + ", " + what + ")", x.stepAt(3, i, what), due[i][what]);
            }
        }
        Check.way(x, 7, "repeat 5 {turn;} repeat 6 {head;} drop 3;");
        Check.due("the last of twelve", x.stepAt(7, 11, 1), 3);
        Check.due("the one ahead of it", x.stepAt(7, 10, 0), 13);
    }

    private static void noneSuch() {
        Check.says("Promise 14", "NONE when there is none such");
        int[][] wrong = {
            {1, 2, 0}, {1, -1, 0}, {1, 0, 3}, {1, 0, -1}, {1, 1, 4}, {2, 12, 0}, {2, 13, 1}, {2, 11, 3}, {3, 0, 0},
            {1, Integer.MAX_VALUE, 0}, {1, Integer.MIN_VALUE, 0}, {1, 0, Integer.MAX_VALUE}, {1, 0, Integer.MIN_VALUE},
        };
        for (int[] w : wrong) {
            String what = "stepAt(" + w[0] + ", " + w[1] + ", " + w[2] + ")";
            Check.refused(what, x -> x.stepAt(w[0], w[1], w[2]), TableWays.NONE);
        }
        for (int i : Check.OFF_SHELF) {
            Check.refused("stepAt(" + i + ", 0, 0)", x -> x.stepAt(i, 0, 0), TableWays.NONE);
        }
        TableWays x = new TableWays();
        Check.way(x, 0, "turn; head;");
        Check.way(x, 0, "turn;");
        Check.due("a step that was there before", x.stepAt(0, 1, 0), TableWays.NONE);
    }

    public static void main(String[] args) {
        what();
        noneSuch();
        Check.end();
    }
}
