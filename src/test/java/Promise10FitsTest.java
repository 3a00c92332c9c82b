/** Promise 10: fits. */
public final class Promise10FitsTest {
    private static void fits(String one, String other, int due) {
        TableWays x = new TableWays();
        Check.table(x, 1, one);
        Check.table(x, 2, other);
        Check.due(one + " and " + other, x.fits(1, 2), due);
        Check.due(other + " and " + one, x.fits(2, 1), due);
        Check.due(one + " and itself", x.fits(1, 1), 1);
        Check.due(one + " stays", Check.read(x, 1), one);
        Check.due(other + " stays", Check.read(x, 2), other);
    }

    private static void rowsAndColumns() {
        Check.says("Term I", "Two tables FIT if they have as many rows and columns");
        fits("a,b", "a;b", 0);
        fits("a,b", "a,b,", 0);
        fits("a;b", "a;b;", 0);
        fits("?", "?;?", 0);
        fits("?,?", "?", 0);
        fits("?,?,?;?,?,?", "?,?;?,?;?,?", 0);
        fits("a,b;c,d", "a,b,c,d", 0);
    }

    private static void cells() {
        Check.says("Term I", "and each cell of the one is the other's");
        fits("a,b;c,d", "a,b;c,d", 1);
        fits("", "", 1);
        fits("a,b;c,d", "x,b;c,d", 0);
        fits("a,b;c,d", "a,b;c,e", 0);
        fits("a", "", 0);
        fits("0", "00", 0);
        fits("a,b", "b,a", 0);
    }

    private static void any() {
        Check.says("Term I", "or one of both is ANY");
        fits("?", "", 1);
        fits("?", "abcdefg", 1);
        fits("?", "?", 1);
        fits("a,?;?,d", "?,b;?,d", 1);
        fits("a,?;?,d", "?,b;?,e", 0);
        fits("?,b", "a,c", 0);
    }

    private static void range() {
        Check.says("Promise 10", "RANGE");
        for (int i : Check.OFF_SHELF) {
            Check.refused("fits(" + i + ", 0)", x -> x.fits(i, 0), TableWays.RANGE);
            Check.refused("fits(0, " + i + ")", x -> x.fits(0, i), TableWays.RANGE);
            Check.refused("fits(" + i + ", " + i + ")", x -> x.fits(i, i), TableWays.RANGE);
        }
    }

    public static void main(String[] args) {
        rowsAndColumns();
        cells();
        any();
        range();
        Check.end();
    }
}
