import java.util.ArrayList;
import java.util.List;

/** Term III: the search, STATE by STATE; the LISTED tables stand in Promise19PartTest. */
public final class Term3SearchTest {
    private static final int NO = TableWays.NONE;

    private static void one(String t, String wish, int most, int[] due) {
        TableWays x = Check.with(t, wish);
        is(x, t + " to " + wish + " in " + most, x.find(0, 1, NO, NO, most), due);
    }

    private static void two(String[] four, int most, int[] due) {
        TableWays x = Check.with(four);
        String what = four[0] + " to " + four[1] + " and " + four[2] + " to " + four[3] + " in " + most;
        is(x, what, x.find(0, 1, 2, 3, most), due);
        is(x, what + ", the second first", x.find(2, 3, 0, 1, most), due);
    }

    /** What is due: the answer, WAYS, STATES, ends. */
    private static void is(TableWays x, String what, int answer, int[] due) {
        Check.due(what, answer, due[0]);
        Check.due("ways of " + what, x.found(0), due[1]);
        Check.due("STATES of " + what, x.found(1), due[2]);
        Check.due("ends of " + what, x.found(2), due[3]);
    }

    private static int[] due(int answer, int ways, int states, int ends) {
        return new int[] {answer, ways, states, ends};
    }

    private static void levels() {
        Check.says("Term III", "All STATES of 0, then of 1, .. STEPS");
        one("", "zz", 0, due(NO, 0, 1, 0));
        // TURN makes the same, COUNT ",1"
        one("", "zz", 1, due(NO, 0, 2, 0));
        // of ",1": ";1" "1" "-1" ":1" "/1" ".1" "1,1" "1,"; DROP 1, COUNT 0 and SUM 0 1 make what was there
        one("", "zz", 2, due(NO, 0, 10, 0));
        one("", ",1", 3, due(1, 1, 2, 1));
        one("", "1,", 3, due(2, 1, 10, 1));
        one("", "?", 3, due(0, 1, 1, 1));
    }

    /** Of "a,b" one STEP makes a;b  b  a  a-b a:b a/b a.b  a,1 b,1  b,a. */
    private static void sameAsBefore() {
        Check.says("Term III", "a STATE that was there before is the same (cell by cell, in both)");
        one("a,b", "zz", 1, due(NO, 0, 11, 0));
        // DROP 0 and DROP 1, COUNT 0 and COUNT 1 make the same, SWAP nothing new
        one("a,a", "zz", 1, due(NO, 0, 8, 0));
        one("a,a", "a", 1, due(1, 2, 8, 1));
        // one table is the same, the other isn't: two STATES
        two(new String[] {"a,a", "zz", "a,b", "zz"}, 1, due(NO, 0, 11, 0));
        two(new String[] {"a,a", "a", "a,b", "?"}, 1, due(1, 2, 11, 2));
        two(new String[] {"a,a", "zz", "a,a", "zz"}, 1, due(NO, 0, 8, 0));
        // cells that are the same in another form are another STATE: TURN
        one("a;a", "a,a", 1, due(1, 1, 4, 1));
        // joined texts that a way of mixing bytes may take for the same, in the first example and in the second
        one(",abc", "zz", 3, due(NO, 0, Model.find(",abc", "zz", null, null, 3).states, 0));
        two(new String[] {",", "zz", "a-b,abc", "zz"}, 2, due(NO, 0, 36, 0));
        Check.due("the model's STATES", Model.find(",", "zz", "a-b,abc", "zz", 2).states, 36);
    }

    private static void onBoth() {
        Check.says("Term III", "(a STEP is done on both; it CAN'T BE, if it can't on one)");
        // TURN and COUNT 0 alone can be on both
        two(new String[] {"a,b", "zz", "a", "zz"}, 1, due(NO, 0, 3, 0));
        two(new String[] {"a,b", "a;b", "a", "a"}, 1, due(1, 1, 3, 1));
        two(new String[] {"a,b", "b", "a", "a"}, 1, due(NO, 0, 3, 0));
        // without STEPS: an ANY in one of them
        two(new String[] {"a,b", "zz", "a,?", "zz"}, 3, due(NO, 0, 1, 0));
        two(new String[] {"a,b", "?,?", "a,?", "?,b"}, 3, due(0, 1, 1, 1));
        one("a,?", "zz", 3, due(NO, 0, 1, 0));
    }

    private static void ends() {
        Check.says("Term III", "A STATE is the end if its tables FIT those wished");
        one("a,b", "?", 3, due(1, 6, 11, 6));
        one("a,b", "?;?", 3, due(1, 1, 11, 1));
        one("a,b", "?,1", 3, due(1, 2, 11, 2));
        two(new String[] {"a,b", "b", "c,d", "d"}, 3, due(1, 1, 11, 1));
        two(new String[] {"a,b", "b", "c,d", "c"}, 1, due(NO, 0, 11, 0));
        two(new String[] {"a,b", "?", "c,d", "c"}, 1, due(1, 1, 11, 1));
        two(new String[] {"a,b", "a,b", "c,d", "d,c"}, 0, due(NO, 0, 1, 0));
        two(new String[] {"a,b", "?,?", "c,d", "d,c"}, 1, due(1, 1, 11, 1));
    }

    /** Two tables of 72 cells each; no STATE of one STEP has fewer than 22. */
    private static void largest() {
        Check.says("Term III", "the first example's table as some STEPS have made it, with the second one's");
        StringBuilder s = new StringBuilder();
        for (int i = 0; i < 72; i++) {
            s.append(i == 0 ? "" : i % 6 == 0 ? ";" : ",").append((char) ('a' + i / 6)).append(i % 6);
        }
        String table = s.toString();
        String other = table.replace('a', 'z');
        String wish = table.substring(table.indexOf(';') + 1);
        Model.Finding f = Model.find(table, wish, other, wish, 1);
        two(new String[] {table, wish, other, wish}, 1, due(1, 1, f.states, 1));
        two(new String[] {table, table, other, other}, 3, due(0, 1, 1, 1));
        // DROP 6, JOIN 20, COUNT 6, HEAD, SWAP 5 on both; SORT by each column is one STATE of the second alone
        two(new String[] {table, "zz", table, "zz"}, 1, due(NO, 0, 1 + 6 + 20 + 6 + 1 + 5, 0));
    }

    private static void allMadeYet() {
        Check.says("Term III", "When there is an end, the STATES of as many STEPS are all made yet");
        String[] wishes = {"a;b", "b", "a", "a-b", "a.b", "a,1", "b,1", "b,a"};
        for (String wish : wishes) {
            // no matter which of them it is, and none of more STEPS is made
            for (int most = 1; most <= 3; most++) {
                one("a,b", wish, most, due(1, 1, 11, 1));
            }
        }
        // with an end at the beginning there is that one alone
        one("a,b", "a,b", 3, due(0, 1, 1, 1));
        one("b,,2,b", "b,,2,b", 3, due(0, 1, 1, 1));
    }

    /** 2,2,b;2,,b has 1500 STATES of up to three STEPS, and b,,2,b one more; Model makes them too. */
    private static void full() {
        Check.says("Term III", "At most 1500 STATES: when one more would come, it ends (FULL)");
        String exact = "2,2,b;2,,b";
        String more = "b,,2,b";
        Check.due("the model's STATES", Model.find(exact, "zz", null, null, 3).states, 1500);
        Check.due("the model's answer", Model.find(exact, "zz", null, null, 3).answer, NO);
        Check.due("the model's answer", Model.find(more, "zz", null, null, 3).answer, TableWays.FULL);
        one(exact, "zz", 3, due(NO, 0, 1500, 0));
        one(exact, "b.2,2;b.2,", 3, due(3, 1, 1500, 1));
        one(more, "zz", 3, due(TableWays.FULL, 0, 1500, 0));
        one(more, "zz", 2, due(NO, 0, 277, 0));
        // the first STATE of three STEPS, the 1500th STATE, and the one that would be the 1501st
        one(more, "b,b,2,b", 3, due(TableWays.FULL, 0, 1500, 1));
        one(more, "b/b,,2", 3, due(TableWays.FULL, 0, 1500, 1));
        one(more, "b.b,,2", 3, due(TableWays.FULL, 0, 1500, 0));
        one(",c,1;1,a,1", "zz", 3, due(NO, 0, 1499, 0));
        two(new String[] {exact, "zz", exact, "zz"}, 3, due(NO, 0, 1500, 0));
        two(new String[] {more, "zz", more, "zz"}, 3, due(TableWays.FULL, 0, 1500, 0));
    }

    private static void afterFull() {
        Check.says("Term III", "it ends (FULL)");
        TableWays x = Check.with("b,,2,b", "zz", "a,b", "b,a");
        for (int i = 0; i < 5; i++) {
            Check.due("find", x.find(0, 1, NO, NO, 3), TableWays.FULL);
            is(x, "the next", x.find(2, 3, NO, NO, 3), due(1, 1, 11, 1));
            Check.due("take", x.take(0, i), 1);
            Check.due("take", Check.readWay(x, i), "14.0.0");
        }
    }

    /** One table for each STEP, with its numbers at their bounds, so that this STEP alone is the way. */
    private static void everyStep() {
        Check.says("Term III", "each STEP by its number, a, b (0 .. 5 each; b 0 .. 3 of MARKS)");
        String[][] cases = {
            {"a,b;c,d", "a,c;b,d", "1.0.0"},
            {"a,b,c,d,e,f", "b,c,d,e,f", "2.0.0"},
            {"a,b,c,d,e,f", "a,b,c,d,e", "2.5.0"},
            {"a-b,x", "a,b,x", "3.0.0"},
            {"x,y,z,w,a:b", "x,y,z,w,a,b", "3.4.1"},
            {"x,y,z,a/b", "x,y,z,a,b", "3.3.2"},
            {"x,a.b", "x,a,b", "3.1.3"},
            {"a,x;,y", "a,x;a,y", "4.0.0"},
            {"1,2,3,4,5,a;1,2,3,4,5,", "1,2,3,4,5,a;1,2,3,4,5,a", "4.5.0"},
            {"a,b,c,d,e,f", "a-b,c,d,e,f", "5.0.0"},
            {"a,b,c,d,e,f", "a,b,c,d,e.f", "5.4.3"},
            {"k,x,y;a,1,2", "a,x,1;a,y,2", "6.1.0"},
            {"1,2,3,4,5,6;a,b,c,d,e,f", "a,b,c,d,5,e;a,b,c,d,6,f", "6.4.0"},
            {"a,x,1;a,y,2", ",x,y;a,1,2", "7.0.0"},
            {"b,1;a,2", "a,2;b,1", "8.0.0"},
            {"1,1,1,1,1,b;2,2,2,2,2,a", "2,2,2,2,2,a;1,1,1,1,1,b", "8.5.0"},
            {"a,b;c,d;a,b", "a,b;c,d", "9.0.0"},
            {"a,x;a,y", "a,2", "10.0.0"},
            {"p,q,r,s,t,z", "z,1", "10.5.0"},
            {"x,7", "x,7", ""},
            {"x,7;x,2", "x,9", "11.0.1"},
            {"a,b,c,d,3,x;a,b,c,d,4,x", "x,7", "11.5.4"},
            {"a,b,c,d,x,3;a,b,c,d,x,4", "x,7", "11.4.5"},
            {",x;a,y;b,z", "a,y;b,z", "12.0.0 13.0.0"},
            {"1,1,1,1,1,a;2,2,2,2,2,;3,3,3,3,3,c", "1,1,1,1,1,a;3,3,3,3,3,c", "12.5.0"},
            {"a,b;c,d;e,f", "c,d;e,f", "13.0.0"},
            {"a,b,c", "b,a,c", "14.0.0"},
            {"a,b,c,d,e,f", "a,b,c,d,f,e", "14.4.0"},
        };
        for (String[] c : cases) {
            TableWays x = Check.with(c[0], c[1]);
            String[] ways = c[2].split(" ");
            int length = c[2].isEmpty() ? 0 : 1;
            Check.due(c[0] + " to " + c[1], x.find(0, 1, NO, NO, 1), length);
            Check.due("ways from " + c[0] + " to " + c[1], x.found(0), ways.length);
            for (int i = 0; i < ways.length; i++) {
                x.take(i, 0);
                Check.due("way from " + c[0] + " to " + c[1], Check.readWay(x, 0), ways[i]);
            }
        }
    }

    private static List<String> told(TableWays x) {
        List<String> ways = new ArrayList<>();
        for (int i = 0; i < 60 && x.take(i, 7) != NO; i++) {
            ways.add(Check.readWay(x, 7));
        }
        return ways;
    }

    private static void shortest() {
        Check.says("Term III", "all rows of STEPS of that length that lead to an end");
        // two STATES on the way, and the STEPS in either order
        TableWays x = Check.with("a,b;c,d;e,f", "d;f");
        Check.due("find", x.find(0, 1, NO, NO, 3), 2);
        Check.due("ways", told(x).toString(), "[2.0.0 13.0.0, 13.0.0 2.0.0]");
        Check.due("ways", x.found(0), 2);
        // DROP 0 or DROP 1 of columns that are alike, each with what follows
        x = Check.with("a,a;b,b", "b");
        Check.due("find", x.find(0, 1, NO, NO, 3), 2);
        Check.due("ways", told(x).toString(), "[2.0.0 13.0.0, 2.1.0 13.0.0, 13.0.0 2.0.0, 13.0.0 2.1.0]");
        Check.due("ways", x.found(0), 4);
        Check.due("ends", x.found(2), 1);
    }

    private static void inOrder() {
        Check.says("Term III", "in order by the first STEP that differs: its number, a, b");
        String[][] cases = {{"a,b,c", "?"}, {"a,b,c", "?,?"}, {"a,b;c,d", "?"}, {"b,1;a,2", "?,?;?,?"}, {"1,2,3", "?,?"},
            {"a,p;b,q;c,r", "?"}, {"abc,abc,abc,abc", "?"}, {"abc,abc,abc,abc,abc,abc", "?,?,?"},
            {"aa,aa,aa,aa,aa;aa,aa,aa,aa,aa", "?,?;?,?"}, {"abcd,abc,abcd,abc,abcd,abc", "?,?,?"},
            {"abc,abc,2", "2;abc"}, {",,,;,,,", ";?;"}, {"1,1,1,1;1,1,1,1", "2;1"}};
        for (String[] c : cases) {
            for (int most = 1; most <= 3; most++) {
                TableWays x = Check.with(c[0], c[1]);
                Model.Finding f = Model.find(c[0], c[1], null, null, most);
                String what = c[0] + " to " + c[1] + " in " + most;
                is(x, what, x.find(0, 1, NO, NO, most), due(f.answer, f.ways, f.states, f.ends));
                Check.due("ways from " + what, told(x).toString(), f.told.toString());
                Check.due("they are in order", inOrder(f.told) ? 1 : 0, 1);
            }
        }
    }

    private static boolean inOrder(List<String> ways) {
        for (int i = 1; i < ways.size(); i++) {
            if (compare(ways.get(i - 1), ways.get(i)) >= 0) {
                return false;
            }
        }
        return true;
    }

    private static int compare(String one, String other) {
        String[] x = one.split("[ .]");
        String[] y = other.split("[ .]");
        for (int i = 0; i < x.length; i++) {
            int difference = Integer.compare(Integer.parseInt(x[i]), Integer.parseInt(y[i]));
            if (difference != 0) {
                return difference;
            }
        }
        return 0;
    }

    public static void main(String[] args) {
        levels();
        sameAsBefore();
        onBoth();
        ends();
        largest();
        allMadeYet();
        full();
        afterFull();
        everyStep();
        shortest();
        inOrder();
        Check.end();
    }
}
