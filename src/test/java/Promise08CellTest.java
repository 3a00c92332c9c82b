/** Promise 8: cell. */
public final class Promise08CellTest {
    private static void number() {
        Check.says("Promise 8", "its bytes as a number to the base 256, the first one highest");
        TableWays x = new TableWays();
        Check.table(x, 0, "a,ab,abc;abcd,abcde,abcdef;abcdefg,zzzzzzz,-------");
        long[] due = {
            0x61L, 0x6162L, 0x616263L, 0x61626364L, 0x6162636465L, 0x616263646566L, 0x61626364656667L,
            0x7a7a7a7a7a7a7aL, 0x2d2d2d2d2d2d2dL,
        };
        for (int i = 0; i < 9; i++) {
            Check.due("cell " + i / 3 + " " + i % 3, x.cell(0, i / 3, i % 3), due[i]);
        }
        Check.due("the same by hand", x.cell(0, 0, 2), (97L * 256L + 98L) * 256L + 99L);
        Check.table(x, 1, ",0");
        Check.due("of no bytes", x.cell(1, 0, 0), 0L);
        Check.due("of one byte", x.cell(1, 0, 1), 48L);
    }

    private static void any() {
        Check.says("Promise 8", "-1 of ANY");
        TableWays x = new TableWays();
        Check.table(x, 0, "?,a;,?");
        Check.due("ANY", x.cell(0, 0, 0), -1L);
        Check.due("ANY", x.cell(0, 1, 1), -1L);
        Check.due("no ANY", x.cell(0, 1, 0), 0L);
    }

    private static void noneSuch() {
        Check.says("Promise 8", "-2 when there is none such");
        TableWays x = new TableWays();
        Check.table(x, 0, "a,b,c;d,e,f;g,h,i");
        Check.table(x, 0, "a,b,c;d,e,f");
        int[][] wrong = {
            {0, 2, 0}, {0, 0, 3}, {0, 1, 3}, {0, 2, 3}, {0, -1, 0}, {0, 0, -1}, {0, -1, 3}, {0, 1, -1}, {0, 2, -3},
            {0, Integer.MAX_VALUE, 0}, {0, 0, Integer.MAX_VALUE}, {0, Integer.MIN_VALUE, 0}, {0, 0, Integer.MIN_VALUE},
            {0, 1431655766, 0}, {0, 1, -2147483645},
        };
        for (int[] w : wrong) {
            Check.due("cell(" + w[0] + ", " + w[1] + ", " + w[2] + ")", x.cell(w[0], w[1], w[2]), -2L);
        }
        for (int t : Check.OFF_SHELF) {
            Check.due("cell(" + t + ", 0, 0)", x.cell(t, 0, 0), -2L);
        }
        Check.due("the last one", x.cell(0, 1, 2), 102L);
    }

    /** The last row and column of the largest table. */
    private static void largest() {
        Check.says("Promise 8", "A cell");
        TableWays x = new TableWays();
        StringBuilder s = new StringBuilder();
        for (int i = 0; i < 72; i++) {
            s.append(i == 0 ? "" : i % 6 == 0 ? ";" : ",").append(i);
        }
        Check.due("table", Check.table(x, 0, s.toString()), 12);
        Check.due("its cells", Check.read(x, 0), s.toString());
        Check.due("row 12", x.cell(0, 12, 0), -2L);
        Check.due("column 6", x.cell(0, 11, 6), -2L);
    }

    public static void main(String[] args) {
        number();
        any();
        noneSuch();
        largest();
        Check.end();
    }
}
