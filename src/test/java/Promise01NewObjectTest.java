/** Promise 1: a new object is as told at first. */
public final class Promise01NewObjectTest {
    private static void tables() {
        Check.says("Term I", "of 1 row and 1 column, empty, at first");
        TableWays x = new TableWays();
        for (int t = 0; t < 8; t++) {
            Check.due("rows of " + t, x.size(t, 0), 1);
            Check.due("columns of " + t, x.size(t, 1), 1);
            Check.due("empty cells of " + t, x.size(t, 2), 1);
            Check.due("numbers of " + t, x.size(t, 3), 0);
            Check.due("anys of " + t, x.size(t, 4), 0);
            Check.due("cell of " + t, x.cell(t, 0, 0), 0L);
            Check.due("next row of " + t, x.cell(t, 1, 0), -2L);
            Check.due("next column of " + t, x.cell(t, 0, 1), -2L);
        }
    }

    private static void ways() {
        Check.says("Term II", "no STEPS at first");
        TableWays x = new TableWays();
        for (int w = 0; w < 8; w++) {
            Check.due("steps of " + w, x.steps(w), 0);
            Check.due("its first step", x.stepAt(w, 0, 0), TableWays.NONE);
        }
        Check.due("steps of all", x.count(1), 0);
    }

    private static void rest() {
        Check.says("Promise 1", "As told at first.");
        TableWays x = new TableWays();
        Check.due("the tape", x.count(0), 0);
        Check.due("a fault's kind ahead of any", x.fault(0), 0);
        Check.due("a fault's place ahead of any", x.fault(1), TableWays.NONE);
        for (int what = 0; what < 3; what++) {
            Check.due("found ahead of any find", x.found(what), 0);
        }
        Check.due("take ahead of any find", x.take(0, 0), TableWays.NONE);
        Check.due("walk of nothing on nothing", x.walk(0, 0, 1), 1);
    }

    private static void eachOnItsOwn() {
        Check.says("Promise 1", "A new object");
        String first = Check.all(new TableWays());
        TableWays x = Check.furnished();
        Check.due("one object leaves the next new", Check.all(new TableWays()), first);
        TableWays y = new TableWays();
        Check.due("tape of the next", y.count(0), 0);
        Check.due("table of the next", Check.read(y, 0), "");
        Check.due("fault of the next", y.fault(0), 0);
        Check.due("found of the next", y.found(1), 0);
        Check.due("table of the first", Check.read(x, 0), "a,b;c,d");
    }

    private static void constants() {
        Check.says("The constants", "NONE = -1");
        Check.due("NONE", TableWays.NONE, -1);
        Check.says("The constants", "RANGE = -2");
        Check.due("RANGE", TableWays.RANGE, -2);
        Check.says("The constants", "FULL = -3");
        Check.due("FULL", TableWays.FULL, -3);
    }

    public static void main(String[] args) {
        tables();
        ways();
        rest();
        eachOnItsOwn();
        constants();
        Check.end();
    }
}
