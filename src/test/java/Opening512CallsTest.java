/** The document's opening: an object is used for at most 512 calls, and answers as due up to the last of them. */
public final class Opening512CallsTest {
    private static final int NO = TableWays.NONE;
    private static final int CALLS = 512;

    /** The dearest searches, with as many STATES as can be, and short ones between. */
    private static void finds() {
        Check.says("What it is", "An object is used for at most 512 calls after it has been made");
        TableWays x = new TableWays();
        String[] tables = {"2,2,b;2,,b", "b,,2,b", "b.2,2;b.2,", "zz", "a,b", "b,a"};
        int calls = 0;
        for (int t = 0; t < tables.length; t++) {
            Check.table(x, t, tables[t]);
            calls += 4;
        }
        for (; calls < CALLS; calls++) {
            String what = "call " + (calls + 1);
            switch (calls % 4) {
                case 0:
                    Check.due(what, x.find(0, 2, NO, NO, 3), 3);
                    break;
                case 1:
                    Check.due(what, x.find(1, 3, NO, NO, 3), TableWays.FULL);
                    break;
                case 2:
                    Check.due(what, x.find(4, 5, 4, 5, 3), 1);
                    break;
                default:
                    Check.due(what, x.found(1), 11);
            }
        }
    }

    private static void tapeAndSteps() {
        Check.says("What it is", "for at most 512 calls");
        TableWays x = new TableWays();
        Check.table(x, 0, "a,b");
        for (int calls = 4; calls < CALLS; calls += 2) {
            boolean even = calls % 4 == 0;
            Check.due("call " + (calls + 1), x.step(0, 14, 0, 0), 1);
            Check.due("call " + (calls + 2), x.cell(0, 0, 0), even ? 'b' : 'a');
        }
        TableWays y = new TableWays();
        for (int calls = 0; calls < CALLS; calls++) {
            int fed = calls % 64;
            if (fed == 63) {
                Check.due("call " + (calls + 1), y.way(0), 0);
            } else {
                int answer = y.feed(0x20202020, 0x20202020, 0x20202020, 0x20202020, 0x20202020);
                Check.due("call " + (calls + 1), answer, fed < 50 ? 20 * (fed + 1) : TableWays.FULL);
            }
        }
    }

    public static void main(String[] args) {
        finds();
        tapeAndSteps();
        Check.end();
    }
}
