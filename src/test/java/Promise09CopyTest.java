/** Promise 9: copy. */
public final class Promise09CopyTest {
    private static void becomes() {
        Check.says("Promise 9", "TABLE to becomes as t: how many rows");
        TableWays x = new TableWays();
        Check.table(x, 0, "a,b;c,?;,f");
        for (int to = 1; to < 8; to++) {
            Check.due("copy to " + to, x.copy(0, to), 3);
            Check.due("copy to " + to, Check.read(x, to), "a,b;c,?;,f");
        }
        Check.due("to itself", x.copy(5, 5), 3);
        Check.due("to itself", Check.read(x, 5), "a,b;c,?;,f");
        Check.table(x, 0, "z");
        Check.due("the copy is its own", Check.read(x, 5), "a,b;c,?;,f");
        Check.due("of a smaller one", x.copy(0, 5), 1);
        Check.due("of a smaller one", Check.read(x, 5), "z");
        Check.due("its columns", x.size(5, 1), 1);
        x.step(0, 10, 0, 0);
        Check.due("the copy stays", Check.read(x, 5), "z");
    }

    private static void range() {
        Check.says("Promise 9", "RANGE");
        for (int i : Check.OFF_SHELF) {
            Check.refused("copy(" + i + ", 0)", x -> x.copy(i, 0), TableWays.RANGE);
            Check.refused("copy(0, " + i + ")", x -> x.copy(0, i), TableWays.RANGE);
            Check.refused("copy(" + i + ", " + i + ")", x -> x.copy(i, i), TableWays.RANGE);
        }
    }

    public static void main(String[] args) {
        becomes();
        range();
        Check.end();
    }
}
