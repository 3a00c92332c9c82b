/** Promise 3: end. */
public final class Promise03EndTest {
    private static TableWays fed() {
        TableWays x = new TableWays();
        x.feed(0x61622c63, 0x643b652c, 0x66676869, 0x2c6a2c6b, 0x2c6c3b6d);
        return x;
    }

    private static void firstBytes() {
        Check.says("Promise 3", "THE TAPE has its first n bytes alone: n");
        String text = "ab,cd;e,fghi,j,k,l;m";
        for (int n = 0; n <= 20; n++) {
            TableWays x = fed();
            Check.due("end(" + n + ")", x.end(n), n);
            Check.due("bytes", x.count(0), n);
            Check.due("end(" + n + ") once more", x.end(n), n);
            if (n < 13) {
                boolean fits = n < 6 || n > 7;
                Check.due("table", x.table(0), !fits ? TableWays.NONE : n < 6 ? 1 : 2);
                Check.due("its bytes", Check.read(x, 0), fits ? text.substring(0, n) : "");
            }
        }
        TableWays x = fed();
        x.end(5);
        x.end(2);
        x.feed(0x3b7a0000, 0, 0, 0, 0);
        x.end(4);
        x.table(0);
        Check.due("what was cut is gone", Check.read(x, 0), "ab;z");
        // bytes that were cut don't lengthen a WORD, nor end a way or a table
        String way = "drop 1;heads;turn;;;;";
        for (int n : new int[] {11, 12}) {
            TableWays y = new TableWays();
            Check.tell(y, way.substring(0, 20));
            y.end(n);
            Check.due("way of " + n, y.way(0), TableWays.NONE);
            Check.due("its kind", y.fault(0), 1);
            Check.due("its place", y.fault(1), n == 11 ? 11 : 7);
        }
        TableWays y = new TableWays();
        Check.tell(y, "a,b;c,dA,,,,,,,,,,,,");
        y.end(7);
        Check.due("table of 7", y.table(0), 2);
        Check.due("table of 7", Check.read(y, 0), "a,b;c,d");
    }

    private static void notSoMany() {
        Check.says("Promise 3", "NONE when it has not so many");
        TableWays x = new TableWays();
        Check.due("end(1) of an empty tape", x.end(1), TableWays.NONE);
        Check.due("end(0) of an empty tape", x.end(0), 0);
        for (int n : new int[] {21, 22, 40, 1000, 1001, Integer.MAX_VALUE}) {
            TableWays y = fed();
            Check.due("end(" + n + ") of 20", y.end(n), TableWays.NONE);
            Check.due("the tape stays", y.count(0), 20);
            y.end(5);
            y.table(0);
            Check.due("its bytes stay", Check.read(y, 0), "ab,cd");
        }
        TableWays y = fed();
        y.end(5);
        Check.due("end(6) of 5", y.end(6), TableWays.NONE);
        Check.due("bytes that were cut don't come back", y.count(0), 5);
        for (int i = 0; i < 50; i++) {
            y.end(20 * i);
            y.feed(0, 0, 0, 0, 0);
        }
        Check.due("end(1001)", y.end(1001), TableWays.NONE);
    }

    private static void belowZero() {
        Check.says("Promise 3", "or n is below 0");
        for (int n : new int[] {-1, -2, -20, Integer.MIN_VALUE}) {
            TableWays y = fed();
            Check.due("end(" + n + ")", y.end(n), TableWays.NONE);
            Check.due("the tape stays", y.count(0), 20);
            Check.due("end(" + n + ") of an empty tape", new TableWays().end(n), TableWays.NONE);
        }
    }

    public static void main(String[] args) {
        firstBytes();
        notSoMany();
        belowZero();
        Check.end();
    }
}
