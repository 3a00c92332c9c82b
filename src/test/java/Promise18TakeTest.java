import java.util.ArrayList;
import java.util.List;

/** Promise 18: take. */
public final class Promise18TakeTest {
    private static final int NO = TableWays.NONE;

    /** Of "a,b,c" two STEPS make one cell: 3 DROPS, 8 JOINS or 3 COUNTS, and then 2 DROPS or 4 JOINS. */
    private static List<String> waysToOneCell() {
        List<String> first = new ArrayList<>(List.of("2.0.0", "2.1.0", "2.2.0"));
        List<String> second = new ArrayList<>(List.of("2.0.0", "2.1.0"));
        for (int b = 0; b < 4; b++) {
            first.add("5.0." + b);
            second.add("5.0." + b);
        }
        for (int b = 0; b < 4; b++) {
            first.add("5.1." + b);
        }
        first.addAll(List.of("10.0.0", "10.1.0", "10.2.0"));
        List<String> ways = new ArrayList<>();
        for (String one : first) {
            for (String two : second) {
                ways.add(one + " " + two);
            }
        }
        return ways;
    }

    private static TableWays found() {
        TableWays x = new TableWays();
        Check.table(x, 0, "a,b,c");
        Check.table(x, 1, "?");
        Check.due("find", x.find(0, 1, NO, NO, 3), 2);
        return x;
    }

    private static void ith() {
        Check.says("Promise 18", "WAY w becomes the i-th of them, from 0 on: how many STEPS");
        List<String> ways = waysToOneCell();
        TableWays x = found();
        Check.due("ways", x.found(0), ways.size());
        for (int i = 0; i < 60; i++) {
            if (i % 30 == 0) {
                x = found();
            }
            Check.due("take " + i, x.take(i, i % 8), 2);
            Check.due("way " + i, Check.readWay(x, i % 8), ways.get(i));
        }
        TableWays y = new TableWays();
        Check.way(y, 4, "head;");
        Check.due("find", y.find(0, 0, NO, NO, 3), 0);
        Check.due("a way without STEPS", y.take(0, 4), 0);
        Check.due("a way without STEPS", y.steps(4), 0);
        Check.due("no more", y.take(1, 4), NO);
        Check.table(y, 0, "a,p;b,q;c,r;d,s");
        Check.table(y, 1, "d,s");
        Check.due("find", y.find(0, 1, NO, NO, 3), 3);
        Check.due("a way of three", y.take(0, 4), 3);
        Check.due("a way of three", Check.readWay(y, 4), "13.0.0 13.0.0 13.0.0");
    }

    private static void only60() {
        Check.says("Term III", "the first 60 are told");
        TableWays x = found();
        Check.due("the last told", x.take(59, 2), 2);
        Check.due("no more are told", x.take(60, 2), NO);
        Check.due("the 84th isn't", x.take(83, 2), NO);
    }

    private static void noneSuch() {
        Check.says("Promise 18", "NONE: there is none such");
        for (int i : new int[] {-1, 1, 2, 59, 60, Integer.MIN_VALUE, Integer.MAX_VALUE}) {
            Check.refused("take(" + i + ", 1)", x -> x.take(i, 1), NO);
        }
        TableWays x = found();
        x.take(0, 5);
        Check.due("ahead of any find", new TableWays().take(0, 0), NO);
        Check.table(x, 1, "zz");
        Check.due("find", x.find(0, 1, NO, NO, 1), NO);
        Check.due("when there are none", x.take(0, 5), NO);
        Check.due("the way stays", Check.readWay(x, 5), "2.0.0 2.0.0");
        Check.table(x, 0, "b,,2,b");
        Check.due("find", x.find(0, 1, NO, NO, 3), TableWays.FULL);
        Check.due("when it was FULL", x.take(0, 5), NO);
        Check.due("the way stays", Check.readWay(x, 5), "2.0.0 2.0.0");
    }

    private static void latest() {
        Check.says("Promise 18", "the i-th of them");
        TableWays x = found();
        Check.due("RANGE", x.find(0, 1, NO, NO, 4), TableWays.RANGE);
        Check.table(x, 0, "q");
        Check.table(x, 1, "r");
        Check.due("what was found stays", x.take(59, 3), 2);
        Check.due("what was found stays", Check.readWay(x, 3), waysToOneCell().get(59));
    }

    private static void range() {
        Check.says("Promise 18", "RANGE");
        for (int w : Check.OFF_SHELF) {
            Check.refused("take(0, " + w + ")", x -> x.take(0, w), TableWays.RANGE);
            Check.refused("take(7, " + w + ")", x -> x.take(7, w), TableWays.RANGE);
            Check.refused("take(-1, " + w + ")", x -> x.take(-1, w), TableWays.RANGE);
        }
    }

    public static void main(String[] args) {
        ith();
        only60();
        noneSuch();
        latest();
        range();
        Check.end();
    }
}
