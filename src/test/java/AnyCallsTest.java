/**
 * Runs of 512 calls with any numbers: no call throws, an object of the same calls answers the same, and
 * what is read afterwards stands in the document's bounds.
 */
public final class AnyCallsTest {
    private static long seed = 7L;

    private static int next(int bound) {
        seed = seed * 6364136223846793005L + 1442695040888963407L;
        return (int) ((seed >>> 33) % bound);
    }

    private static int any() {
        switch (next(12)) {
            case 0:
                return Integer.MIN_VALUE + next(3);
            case 1:
                return Integer.MAX_VALUE - next(3);
            case 2:
                return -1 - next(4);
            case 3:
                return next(2000);
            default:
                return next(9);
        }
    }

    private static int text() {
        String bytes = "abc12,;?-:/.{} \nturnswapdrop012;;,,";
        int four = 0;
        for (int i = 0; i < 4; i++) {
            four = four << 8 | bytes.charAt(next(bytes.length()));
        }
        return next(8) == 0 ? any() : four;
    }

    private static int[] randomCall() {
        int call = next(24);
        int[] numbers = {call < 19 ? call : next(2) == 0 ? 0 : 1, any(), any(), any(), any(), any()};
        if (numbers[0] == 0) {
            for (int i = 1; i < 6; i++) {
                numbers[i] = text();
            }
        }
        if (numbers[0] == 1) {
            numbers[1] = next(12);
        }
        return numbers;
    }

    private static long answer(TableWays x, int[] n) {
        switch (n[0]) {
            case 0: return x.feed(n[1], n[2], n[3], n[4], n[5]);
            case 1: return x.end(n[1]);
            case 2: return x.table(n[1]);
            case 3: return x.way(n[1]);
            case 4: return x.fault(n[1]);
            case 5: return x.size(n[1], n[2]);
            case 6: return x.cell(n[1], n[2], n[3]);
            case 7: return x.copy(n[1], n[2]);
            case 8: return x.fits(n[1], n[2]);
            case 9: return x.step(n[1], n[2] + next(2) - next(2), n[3], n[4]);
            case 10: return x.walk(n[1], n[2], n[3]);
            case 11: return x.steps(n[1]);
            case 12: return x.stepAt(n[1], n[2], n[3]);
            case 13: return x.chain(n[1], n[2], n[3]);
            case 14: return x.find(n[1], n[2], n[3], n[4], n[5]);
            case 15: return x.found(n[1]);
            case 16: return x.take(n[1], n[2]);
            case 17: return x.part(n[1], n[2], n[3], n[4], n[5]);
            default: return x.count(n[1]);
        }
    }

    private static void setUp(TableWays x) {
        Check.table(x, 0, "k,x,y;a,1,2;b,3,4");
        Check.table(x, 1, "a-b,1;,2;c:d,3");
        Check.table(x, 2, "?,?;?,?");
        Check.way(x, 0, "turn; head;");
        Check.way(x, 1, "swap 0; repeat 2 {sort 0;}");
    }

    private static void bounds(TableWays x) {
        int steps = 0;
        for (int i = 0; i < 8; i++) {
            int rows = x.size(i, 0);
            int columns = x.size(i, 1);
            Check.due("rows", rows >= 1 && rows <= 12 ? 1 : 0, 1);
            Check.due("columns", columns >= 1 && columns <= 6 ? 1 : 0, 1);
            for (int c = 0; c < rows * columns; c++) {
                String cell = Check.textOf(x.cell(i, c / columns, c % columns));
                Check.due("cell " + cell, cell.equals("?") || cell.matches("[a-z0-9:/.-]{0,7}") ? 1 : 0, 1);
            }
            Check.due("steps", x.steps(i) >= 0 && x.steps(i) <= 12 ? 1 : 0, 1);
            steps += x.steps(i);
        }
        Check.due("all steps", x.count(1), steps);
    }

    public static void main(String[] args) {
        for (int run = 0; run < 300; run++) {
            TableWays x = new TableWays();
            TableWays y = new TableWays();
            setUp(x);
            setUp(y);
            for (int i = 0; i < 480; i++) {
                int[] call = randomCall();
                long before = seed;
                long one = answer(x, call);
                seed = before;
                Check.due("the same call on the same", answer(y, call), one);
            }
            bounds(x);
        }
        Check.end();
    }
}
