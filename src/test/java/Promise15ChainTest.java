/** Promise 15: chain. */
public final class Promise15ChainTest {
    private static TableWays ways() {
        TableWays x = new TableWays();
        Check.way(x, 0, "turn; drop 1;");
        Check.way(x, 1, "repeat 5 {head; sort 2;}");
        Check.way(x, 2, "fill 4; split 5 /; keep 0;");
        return x;
    }

    private static void oneBehindTheOther() {
        Check.says("Promise 15", "WAY to becomes w and v one behind the other: how many STEPS");
        TableWays x = ways();
        Check.due("chain", x.chain(0, 2, 7), 5);
        Check.due("chain", Check.readWay(x, 7), "1.0.0 2.1.0 4.4.0 3.5.2 12.0.0");
        Check.due("the other way about", x.chain(2, 0, 7), 5);
        Check.due("the other way about", Check.readWay(x, 7), "4.4.0 3.5.2 12.0.0 1.0.0 2.1.0");
        Check.due("the first stays", Check.readWay(x, 0), "1.0.0 2.1.0");
        Check.due("the second stays", Check.readWay(x, 2), "4.4.0 3.5.2 12.0.0");
        Check.due("of none", x.chain(5, 6, 7), 0);
        Check.due("of none", x.steps(7), 0);
        Check.due("with none ahead", x.chain(5, 0, 7), 2);
        Check.due("with none behind", x.chain(0, 5, 6), 2);
        Check.due("with none ahead", Check.readWay(x, 7), "1.0.0 2.1.0");
        Check.due("with none behind", Check.readWay(x, 6), "1.0.0 2.1.0");
    }

    private static void intoOneOfThem() {
        Check.says("Promise 15", "WAY to becomes w and v");
        TableWays x = ways();
        Check.due("into the second", x.chain(0, 2, 2), 5);
        Check.due("into the second", Check.readWay(x, 2), "1.0.0 2.1.0 4.4.0 3.5.2 12.0.0");
        x = ways();
        Check.due("into the first", x.chain(2, 0, 2), 5);
        Check.due("into the first", Check.readWay(x, 2), "4.4.0 3.5.2 12.0.0 1.0.0 2.1.0");
        x = ways();
        Check.due("twice itself into itself", x.chain(0, 0, 0), 4);
        Check.due("twice itself into itself", Check.readWay(x, 0), "1.0.0 2.1.0 1.0.0 2.1.0");
    }

    private static void full() {
        Check.says("Promise 15", "FULL: more than 12");
        TableWays x = ways();
        Check.due("10 and 2", x.chain(1, 0, 3), 12);
        Check.due("12 and none", x.chain(3, 7, 4), 12);
        Check.due("none and 12", x.chain(7, 3, 5), 12);
        Check.due("10 and 3", x.chain(1, 2, 6), TableWays.FULL);
        Check.due("it leaves", x.steps(6), 0);
        Check.due("3 and 10 into the first", x.chain(2, 1, 2), TableWays.FULL);
        Check.due("it leaves", Check.readWay(x, 2), "4.4.0 3.5.2 12.0.0");
        Check.due("12 and 12 into itself", x.chain(3, 3, 3), TableWays.FULL);
        Check.due("it leaves", x.steps(3), 12);
        Check.refused("chain(2, 0, 5)", y -> y.chain(2, 0, 5), TableWays.FULL);
    }

    private static void range() {
        Check.says("Promise 15", "RANGE");
        for (int i : Check.OFF_SHELF) {
            Check.refused("chain(" + i + ", 0, 1)", x -> x.chain(i, 0, 1), TableWays.RANGE);
            Check.refused("chain(0, " + i + ", 1)", x -> x.chain(0, i, 1), TableWays.RANGE);
            Check.refused("chain(0, 1, " + i + ")", x -> x.chain(0, 1, i), TableWays.RANGE);
            Check.refused("chain(2, 2, " + i + ")", x -> x.chain(2, 2, i), TableWays.RANGE);
        }
    }

    public static void main(String[] args) {
        oneBehindTheOther();
        intoOneOfThem();
        full();
        range();
        Check.end();
    }
}
