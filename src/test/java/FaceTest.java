/** Promises 1, 7 to 10, 13 to 15 and 20: what can be read of tables and ways, copying, fitting, chaining. */
public final class FaceTest {
    private static void atFirst() {
        TableWays x = new TableWays();
        for (int i = 0; i < 8; i++) {
            Check.due("rows", x.size(i, 0), 1);
            Check.due("columns", x.size(i, 1), 1);
            Check.due("empty cells", x.size(i, 2), 1);
            Check.due("numbers", x.size(i, 3), 0);
            Check.due("anys", x.size(i, 4), 0);
            Check.due("cell", x.cell(i, 0, 0), 0L);
            Check.due("steps", x.steps(i), 0);
        }
        Check.due("bytes", x.count(0), 0);
        Check.due("all steps", x.count(1), 0);
        for (int what = 0; what < 3; what++) {
            Check.due("found ahead of any", x.found(what), 0);
        }
        Check.due("take ahead of any", x.take(0, 0), TableWays.NONE);
        Check.due("constants", TableWays.NONE * 100 + TableWays.RANGE * 10 + TableWays.FULL, -123);
    }

    private static void sizes() {
        TableWays x = new TableWays();
        Check.table(x, 7, "a,1,?;,123456,;1234567,1-2,?;0,,?");
        Check.due("rows", x.size(7, 0), 4);
        Check.due("columns", x.size(7, 1), 3);
        Check.due("empty cells", x.size(7, 2), 3);
        Check.due("numbers", x.size(7, 3), 3);
        Check.due("anys", x.size(7, 4), 3);
        Check.due("another what", x.size(7, 5), TableWays.NONE);
        Check.due("another what", x.size(7, -1), TableWays.NONE);
        Check.due("no table", x.size(8, 0), TableWays.NONE);
        Check.due("no table", x.size(-1, 0), TableWays.NONE);
        Check.due("cell", x.cell(7, 2, 0), 0x31323334353637L);
        Check.due("cell", x.cell(7, 2, 1), 0x312d32L);
        Check.due("any", x.cell(7, 3, 2), -1L);
        Check.due("empty", x.cell(7, 3, 1), 0L);
        Check.due("no row", x.cell(7, 4, 0), -2L);
        Check.due("no row", x.cell(7, -1, 2), -2L);
        Check.due("no column", x.cell(7, 0, 3), -2L);
        Check.due("no column", x.cell(7, 1, -1), -2L);
        Check.due("no table", x.cell(8, 0, 0), -2L);
        Check.due("no table", x.cell(-1, 0, 0), -2L);
    }

    private static void copies() {
        TableWays x = new TableWays();
        Check.table(x, 0, "a,b;c,?;e,f");
        Check.due("copy", x.copy(0, 5), 3);
        Check.due("copy", Check.read(x, 5), "a,b;c,?;e,f");
        Check.due("copy to itself", x.copy(5, 5), 3);
        Check.due("copy", Check.read(x, 5), "a,b;c,?;e,f");
        Check.table(x, 0, "z");
        Check.due("the copy is its own", Check.read(x, 5), "a,b;c,?;e,f");
        Check.due("copy", x.copy(0, 5), 1);
        Check.due("copy", Check.read(x, 5), "z");
        Check.due("range", x.copy(8, 0), TableWays.RANGE);
        Check.due("range", x.copy(0, 8), TableWays.RANGE);
        Check.due("range", x.copy(-1, 0), TableWays.RANGE);
        Check.due("range", x.copy(0, -1), TableWays.RANGE);
    }

    private static int fits(String one, String other) {
        TableWays x = new TableWays();
        Check.table(x, 1, one);
        Check.table(x, 2, other);
        Check.due("fits is the same both ways", x.fits(2, 1), x.fits(1, 2));
        return x.fits(1, 2);
    }

    private static void fitting() {
        Check.due("same", fits("a,b;c,d", "a,b;c,d"), 1);
        Check.due("another cell", fits("a,b;c,d", "a,b;c,e"), 0);
        Check.due("another form", fits("a,b", "a;b"), 0);
        Check.due("another form", fits("a,b", "a,b,"), 0);
        Check.due("another form", fits("?", "?;?"), 0);
        Check.due("any", fits("a,?;?,d", "?,b;?,d"), 1);
        Check.due("any is not enough", fits("a,?;?,d", "?,b;?,e"), 0);
        Check.due("any and empty", fits("?", ""), 1);
        TableWays x = new TableWays();
        Check.due("range", x.fits(8, 0), TableWays.RANGE);
        Check.due("range", x.fits(0, 8), TableWays.RANGE);
        Check.due("range", x.fits(-1, 0), TableWays.RANGE);
        Check.due("range", x.fits(0, -1), TableWays.RANGE);
    }

    private static void wayParts() {
        TableWays x = new TableWays();
        Check.way(x, 3, "sum 4 5; join 2 .; head;");
        Check.due("steps", x.steps(3), 3);
        Check.due("number", x.stepAt(3, 0, 0), 11);
        Check.due("a", x.stepAt(3, 0, 1), 4);
        Check.due("b", x.stepAt(3, 0, 2), 5);
        Check.due("mark", x.stepAt(3, 1, 2), 3);
        Check.due("no numbers", x.stepAt(3, 2, 1), 0);
        Check.due("no such", x.stepAt(3, 0, 3), TableWays.NONE);
        Check.due("no such", x.stepAt(3, 0, -1), TableWays.NONE);
        Check.due("no such", x.stepAt(3, 3, 0), TableWays.NONE);
        Check.due("no such", x.stepAt(3, -1, 0), TableWays.NONE);
        Check.due("no such", x.stepAt(8, 0, 0), TableWays.NONE);
        Check.due("no such", x.stepAt(-1, 0, 0), TableWays.NONE);
        Check.due("range", x.steps(8), TableWays.RANGE);
        Check.due("range", x.steps(-1), TableWays.RANGE);
    }

    private static void chains() {
        TableWays x = new TableWays();
        Check.way(x, 0, "turn; drop 1;");
        Check.way(x, 1, "repeat 5 {head; sort 2;}");
        Check.way(x, 2, "fill 4; fill 5; keep 0;");
        Check.due("full", x.chain(1, 2, 3), TableWays.FULL);
        Check.due("full leaves", x.steps(3), 0);
        Check.due("chain", x.chain(0, 2, 3), 5);
        Check.due("chain", Check.readWay(x, 3), "1.0.0 2.1.0 4.4.0 4.5.0 12.0.0");
        Check.due("into the second", x.chain(0, 2, 2), 5);
        Check.due("into the second", Check.readWay(x, 2), "1.0.0 2.1.0 4.4.0 4.5.0 12.0.0");
        Check.due("twelve", x.chain(0, 1, 1), 12);
        Check.due("with an empty one", x.chain(7, 1, 1), 12);
        Check.due("full", x.chain(1, 0, 0), TableWays.FULL);
        Check.due("twice itself", x.chain(0, 0, 0), 4);
        Check.due("twice itself", Check.readWay(x, 0), "1.0.0 2.1.0 1.0.0 2.1.0");
        Check.due("all steps", x.count(1), 4 + 12 + 5 + 5);
        Check.due("range", x.chain(8, 0, 0), TableWays.RANGE);
        Check.due("range", x.chain(0, -1, 0), TableWays.RANGE);
        Check.due("range ahead of full", x.chain(1, 1, 8), TableWays.RANGE);
        Check.due("another count", x.count(2), TableWays.NONE);
        Check.due("another count", x.count(-1), TableWays.NONE);
    }

    public static void main(String[] args) {
        atFirst();
        sizes();
        copies();
        fitting();
        wayParts();
        chains();
        Check.end();
    }
}
