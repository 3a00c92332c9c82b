/** Promise 16: find; how the search goes stands in Term3SearchTest. */
public final class Promise16FindTest {
    private static final int NO = TableWays.NONE;

    private static void howMany() {
        Check.says("Promise 16", "of at most so many STEPS (0 .. 3)");
        String[] wishes = {"a,p;b,q;c,r;d,s;e,t", "b,q;c,r;d,s;e,t", "c,r;d,s;e,t", "d,s;e,t", "e,t"};
        for (int steps = 0; steps < wishes.length; steps++) {
            TableWays x = Check.with(wishes[0], wishes[steps]);
            for (int most = 0; most <= 3; most++) {
                int due = steps <= most ? steps : NO;
                Check.due("to " + wishes[steps] + " in " + most, x.find(0, 1, NO, NO, most), due);
                Check.due("ways of it", x.found(0), due == NO ? 0 : 1);
            }
        }
        for (int most : new int[] {-1, 4, 5, Integer.MIN_VALUE, Integer.MAX_VALUE}) {
            Check.refused("find of at most " + most, x -> x.find(0, 0, NO, NO, most), TableWays.RANGE);
            Check.refused("find of two of at most " + most, x -> x.find(0, 0, 1, 1, most), TableWays.RANGE);
        }
    }

    private static void fromAnywhere() {
        Check.says("Promise 16", "from TABLE t to one that FITS TABLE wish");
        for (int t = 0; t < 8; t++) {
            TableWays x = new TableWays();
            int wish = (t + 3) % 8;
            Check.table(x, t, "a,b");
            Check.table(x, wish, "b,?");
            Check.due("find from " + t + " to " + wish, x.find(t, wish, NO, NO, 3), 1);
            Check.due("the tables stay", Check.read(x, t) + " " + Check.read(x, wish), "a,b b,?");
        }
        TableWays x = Check.with("a,?", "?,b");
        Check.due("ANY in both", x.find(0, 1, NO, NO, 3), 0);
        Check.due("one table for both", x.find(0, 0, NO, NO, 3), 0);
    }

    private static void twoExamples() {
        Check.says("Promise 16", "and, if u isn't NONE, from u to v");
        TableWays x = Check.with("a,a", "a", "b,c", "c", "b");
        Check.due("one example", x.find(0, 1, NO, NO, 1), 1);
        Check.due("its ways", x.found(0), 2);
        Check.due("to the second column", x.find(0, 1, 2, 3, 1), 1);
        Check.due("its ways", x.found(0), 1);
        x.take(0, 0);
        Check.due("its way", Check.readWay(x, 0), "2.0.0");
        Check.due("to the first column", x.find(0, 1, 2, 4, 1), 1);
        x.take(0, 0);
        Check.due("its way", Check.readWay(x, 0), "2.1.0");
        Check.due("the second first", x.find(2, 4, 0, 1, 1), 1);
        Check.due("not both", x.find(2, 3, 2, 4, 1), NO);
        Check.due("no more than the first", x.find(0, 1, 2, 2, 1), NO);
        Check.due("all at the beginning", x.find(0, 0, 2, 2, 0), 0);
        Check.due("all of one table", x.find(0, 0, 0, 0, 0), 0);
    }

    private static void none() {
        Check.says("Promise 16", "NONE: there are none");
        TableWays x = Check.with("a,b", "zz", "?,?");
        Check.due("none in 0", x.find(0, 1, NO, NO, 0), NO);
        Check.due("none in 3", x.find(0, 1, NO, NO, 3), NO);
        Check.due("none from ANY", x.find(2, 1, NO, NO, 3), NO);
        Check.due("none from a second ANY", x.find(0, 1, 2, 1, 3), NO);
        Check.due("none to take", x.take(0, 0), NO);
    }

    private static void full() {
        Check.says("Promise 16", "FULL: the STATES didn't last");
        TableWays x = Check.with("a,b,c,d,e,f;1,2,3,4,5,6;a,x,,1,2,3", "zzz", "?,?,?,?;?,?,?,?;?,?,?,?", "?,?,?;?,?,?;?,?,?");
        Check.due("none in 3", x.find(0, 1, NO, NO, 3), TableWays.FULL);
        Check.due("none in 1", x.find(0, 1, NO, NO, 1), NO);
        Check.due("one in 2, ahead of all STATES of 3", x.find(0, 2, NO, NO, 3), 2);
        Check.due("one in 3, but not all STATES of 3", x.find(0, 3, NO, NO, 3), TableWays.FULL);
        Check.due("no way", x.found(0), 0);
        Check.due("none to take", x.take(0, 0), NO);
    }

    private static void range() {
        Check.says("Promise 16", "RANGE");
        for (int i : Check.OFF_SHELF) {
            Check.refused("find from " + i, x -> x.find(i, 0, NO, NO, 1), TableWays.RANGE);
            Check.refused("find to " + i, x -> x.find(0, i, NO, NO, 1), TableWays.RANGE);
            Check.refused("find of two from " + i, x -> x.find(i, 0, 1, 1, 1), TableWays.RANGE);
            Check.refused("find of two to " + i, x -> x.find(0, i, 1, 1, 1), TableWays.RANGE);
            if (i != NO) {
                Check.refused("second from " + i, x -> x.find(0, 0, i, 1, 1), TableWays.RANGE);
                Check.refused("second to " + i, x -> x.find(0, 0, 1, i, 1), TableWays.RANGE);
                Check.refused("second from and to " + i, x -> x.find(0, 0, i, i, 1), TableWays.RANGE);
            }
        }
        Check.says("Promise 16", "(v is NONE just if u is)");
        for (int i = -2; i <= 8; i++) {
            int u = i;
            if (u != NO) {
                Check.refused("second from " + u + " to none", x -> x.find(0, 0, u, NO, 1), TableWays.RANGE);
                Check.refused("second from none to " + u, x -> x.find(0, 0, NO, u, 1), TableWays.RANGE);
            }
        }
        Check.due("neither", new TableWays().find(0, 0, NO, NO, 1), 0);
        Check.due("both", new TableWays().find(0, 0, 7, 7, 1), 0);
    }

    public static void main(String[] args) {
        howMany();
        fromAnywhere();
        twoExamples();
        none();
        full();
        range();
        Check.end();
    }
}
