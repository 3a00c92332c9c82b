/** Term II, STEPS: what each makes, and each reason for which it CAN'T BE. */
public final class Term2StepsTest {
    private static final int TURN = 1;
    private static final int DROP = 2;
    private static final int SPLIT = 3;
    private static final int FILL = 4;
    private static final int JOIN = 5;
    private static final int FOLD = 6;
    private static final int UNFOLD = 7;
    private static final int SORT = 8;
    private static final int SINGLE = 9;
    private static final int COUNT = 10;
    private static final int SUM = 11;
    private static final int KEEP = 12;
    private static final int HEAD = 13;
    private static final int SWAP = 14;

    /** A table on which every STEP can be, with the numbers beside it. */
    private static final String GOOD = "a-b,x,1;,x,2;a,y,3;a,z,4;a,z,4";
    private static final String GOOD_TO_UNFOLD = "a,x,1;a,y,2;b,x,3";
    private static final int[][] NUMBERS = {
        {}, {0, 0}, {0, 0}, {0, 0}, {0, 0}, {0, 1}, {1, 0}, {0, 0}, {0, 0}, {0, 0}, {0, 0}, {0, 2}, {0, 0}, {0, 0}, {0, 0},
    };

    private static void makes(String in, int step, int a, int b, String out) {
        TableWays x = new TableWays();
        Check.table(x, 3, in);
        String what = "step " + step + " " + a + " " + b + " of " + in;
        Check.due(what, x.step(3, step, a, b), out.split(";", -1).length);
        Check.due(what, Check.read(x, 3), out);
    }

    private static void cannot(String in, int step, int a, int b) {
        TableWays x = new TableWays();
        Check.table(x, 3, in);
        String what = "step " + step + " " + a + " " + b + " of " + in;
        Check.due(what, x.step(3, step, a, b), TableWays.NONE);
        Check.due(what, Check.read(x, 3), in);
    }

    private static String good(int step) {
        return step == UNFOLD ? GOOD_TO_UNFOLD : GOOD;
    }

    private static boolean can(String in, int step, int a, int b) {
        TableWays x = new TableWays();
        Check.table(x, 0, in);
        return x.step(0, step, a, b) != TableWays.NONE;
    }

    private static boolean isBare(int step) {
        return step == TURN || step == UNFOLD || step == SINGLE || step == HEAD;
    }

    private static void otherNumbers() {
        Check.says("Term II", "0 where none are told");
        for (int step = TURN; step <= SWAP; step++) {
            int a = NUMBERS[step][0];
            int b = NUMBERS[step][1];
            Check.due("step " + step + " can be", can(good(step), step, a, b) ? 1 : 0, 1);
            boolean hasB = step == SPLIT || step == JOIN || step == SUM;
            for (int other : new int[] {1, -1, 2, 5, 6, Integer.MIN_VALUE, Integer.MAX_VALUE}) {
                if (!hasB) {
                    cannot(good(step), step, a, other);
                }
                if (isBare(step)) {
                    cannot(good(step), step, other, 0);
                }
            }
        }
        Check.says("Term II", "other numbers than told (a column that isn't there)");
        for (int step = TURN; step <= SWAP; step++) {
            for (int other : new int[] {-1, 3, 4, 6, Integer.MIN_VALUE, Integer.MAX_VALUE}) {
                if (!isBare(step)) {
                    cannot(good(step), step, other, NUMBERS[step][1]);
                }
                if (step == SUM) {
                    cannot(good(step), step, 0, other);
                }
            }
        }
        for (int b : new int[] {-1, 4, 5, Integer.MIN_VALUE, Integer.MAX_VALUE}) {
            cannot("-:/.", SPLIT, 0, b);
            cannot("a,b", JOIN, 0, b);
        }
        // a column too far is not the next row's first, nor one ahead of 0 the last of the row above
        for (int a : new int[] {-2, -1, 2, 3}) {
            cannot("a-b,c-d;e-f,g-h;i-j,k-l", SPLIT, a, 0);
            cannot("a,b;,;c,d;,", FILL, a, 0);
            cannot("d,c;b,a;1,0", SORT, a, 0);
            cannot("a,b;,;c,d;,", KEEP, a, 0);
            cannot("1,2;3,4;5,6", COUNT, a, 0);
            cannot("1,2;3,4;5,6", SUM, a, 0);
            cannot("1,2;3,4;5,6", SUM, 0, a);
            cannot("1,2;3,4;5,6", DROP, a, 0);
            cannot("1,2;3,4;5,6", JOIN, a, 0);
            cannot("1,2;3,4;5,6", SWAP, a, 0);
            cannot("1,2;3,4;5,6", FOLD, a, 0);
        }
    }

    /** The same table with a text where the ANY is, so that it is the ANY alone that refuses. */
    private static void any() {
        Check.says("Term II", "there is an ANY in the table");
        for (int step = TURN; step <= SWAP; step++) {
            int a = NUMBERS[step][0];
            int b = NUMBERS[step][1];
            String[] cells = good(step).split("[,;]");
            for (int i = 0; i < cells.length; i++) {
                StringBuilder s = new StringBuilder();
                for (int k = 0; k < cells.length; k++) {
                    s.append(k == 0 ? "" : k % 3 == 0 ? ";" : ",").append(k == i ? "?" : cells[k]);
                }
                cannot(s.toString(), step, a, b);
            }
            Check.due("without ANY step " + step + " can be", can(good(step), step, a, b) ? 1 : 0, 1);
        }
    }

    private static void tooLarge() {
        Check.says("Term II", "or the table would be too large");
        makes("1;2;3;4;5;6", TURN, 0, 0, "1,2,3,4,5,6");
        cannot("1;2;3;4;5;6;7", TURN, 0, 0);
        cannot("1;2;3;4;5;6;7;8;9;10;11;12", TURN, 0, 0);
        makes("a-b,,,,", SPLIT, 0, 0, "a,b,,,,");
        cannot("a-b,,,,,", SPLIT, 0, 0);
        makes("k,x,y;1,,;2,,;3,,;4,,;5,,;6,,", FOLD, 1, 0,
            "1,x,;1,y,;2,x,;2,y,;3,x,;3,y,;4,x,;4,y,;5,x,;5,y,;6,x,;6,y,");
        cannot("k,x,y;1,,;2,,;3,,;4,,;5,,;6,,;7,,", FOLD, 1, 0);
        makes("n,a,b,c,d,e;1,2,3,4,5,6", FOLD, 4, 0, "1,2,3,4,d,5;1,2,3,4,e,6");
        cannot("n,a,b,c,d,e;1,2,3,4,5,6", FOLD, 5, 0);
        makes("a,1,;a,2,;a,3,;a,4,;a,5,", UNFOLD, 0, 0, ",1,2,3,4,5;a,,,,,");
        cannot("a,1,;a,2,;a,3,;a,4,;a,5,;a,6,", UNFOLD, 0, 0);
        makes("a,x,;b,x,;c,x,;d,x,;e,x,;f,x,;g,x,;h,x,;i,x,;j,x,;k,x,", UNFOLD, 0, 0,
            ",x;a,;b,;c,;d,;e,;f,;g,;h,;i,;j,;k,");
        cannot("a,x,;b,x,;c,x,;d,x,;e,x,;f,x,;g,x,;h,x,;i,x,;j,x,;k,x,;l,x,", UNFOLD, 0, 0);
        makes("a,b,c,d,x,1;a,b,c,e,y,2", UNFOLD, 0, 0, ",,,,x,y;a,b,c,d,1,;a,b,c,e,,2");
        Check.says("Term II", "or have a cell of more than 7 bytes");
        makes("abc,def", JOIN, 0, 2, "abc/def");
        makes("abcdef,", JOIN, 0, 3, "abcdef.");
        makes(",abcdef", JOIN, 0, 3, ".abcdef");
        cannot("abcd,def", JOIN, 0, 2);
        cannot("abcdefg,", JOIN, 0, 0);
        cannot(",abcdefg", JOIN, 0, 0);
        cannot("a,b;abcdefg,", JOIN, 0, 2);
        cannot("abcdefg,x;a,b", JOIN, 0, 2);
        cannot("abcdefg,abcdefg", JOIN, 0, 2);
    }

    private static void turnDropSwap() {
        Check.says("Term II", "1 TURN: rows become columns");
        makes("a,b,c;d,e,f", TURN, 0, 0, "a,d;b,e;c,f");
        makes("", TURN, 0, 0, "");
        makes("a,b,c,d,e,f", TURN, 0, 0, "a;b;c;d;e;f");
        Check.says("Term II", "2 DROP a: column a goes; C is 2 or more");
        makes("a,b,c;d,e,f", DROP, 0, 0, "b,c;e,f");
        makes("a,b,c;d,e,f", DROP, 1, 0, "a,c;d,f");
        makes("a,b,c;d,e,f", DROP, 2, 0, "a,b;d,e");
        makes("a,b", DROP, 1, 0, "a");
        makes("1,2,3,4,5,6", DROP, 5, 0, "1,2,3,4,5");
        cannot("a;b", DROP, 0, 0);
        cannot("a", DROP, 0, 0);
        Check.says("Term II", "14 SWAP a: columns a, a + 1 change places");
        makes("a,b,c;d,e,f", SWAP, 0, 0, "b,a,c;e,d,f");
        makes("a,b,c;d,e,f", SWAP, 1, 0, "a,c,b;d,f,e");
        makes("1,2,3,4,5,6", SWAP, 4, 0, "1,2,3,4,6,5");
        makes("a,a", SWAP, 0, 0, "a,a");
        cannot("a,b,c", SWAP, 2, 0);
        cannot("1,2,3,4,5,6", SWAP, 5, 0);
        cannot("a", SWAP, 0, 0);
    }

    private static void splitJoin() {
        Check.says("Term II", "column a becomes two: what is ahead of its first MARK b, and what is behind it");
        makes("x,a-b-c,y;z,d-,w", SPLIT, 1, 0, "x,a,b-c,y;z,d,,w");
        makes("-", SPLIT, 0, 0, ",");
        makes("--", SPLIT, 0, 0, ",-");
        makes("1:2;:x;x:", SPLIT, 0, 1, "1,2;,x;x,");
        makes("a/b", SPLIT, 0, 2, "a,b");
        makes("abc.def", SPLIT, 0, 3, "abc,def");
        makes("abcdef-", SPLIT, 0, 0, "abcdef,");
        makes("-abcdef", SPLIT, 0, 0, ",abcdef");
        makes("x,y,z,w,a-b", SPLIT, 4, 0, "x,y,z,w,a,b");
        Check.says("Term II", "(all, and empty, of a cell without one)");
        makes("a-b;c;;d:e", SPLIT, 0, 0, "a,b;c,;,;d:e,");
        makes("abcdefg;-", SPLIT, 0, 0, "abcdefg,;,");
        Check.says("Term II", "some cell has one");
        cannot("a-b", SPLIT, 0, 1);
        cannot("ab,c-d", SPLIT, 0, 0);
        cannot("c-d,ab", SPLIT, 1, 0);
        cannot("a;b;", SPLIT, 0, 0);
        makes("a;b;-", SPLIT, 0, 0, "a,;b,;,");
        Check.says("Term II", "5 JOIN a b: columns a, a + 1 become one: text, MARK b, text");
        makes("a,b,c;,,d", JOIN, 0, 0, "a-b,c;-,d");
        makes("a,b,c", JOIN, 1, 1, "a,b:c");
        makes("a,b,c,d", JOIN, 1, 2, "a,b/c,d");
        makes(",", JOIN, 0, 3, ".");
        makes("1,2,3,4,5,6", JOIN, 4, 0, "1,2,3,4,5-6");
        cannot("a,b", JOIN, 1, 0);
        cannot("1,2,3,4,5,6", JOIN, 5, 0);
        cannot("a", JOIN, 0, 0);
    }

    private static void fillKeepHead() {
        Check.says("Term II", "4 FILL a: each empty cell of column a, from row 1 on, becomes as the one above is then");
        makes(",1;a,2;,3;,4;b,5;,6", FILL, 0, 0, ",1;a,2;a,3;a,4;b,5;b,6");
        makes("x,;y,b;z,", FILL, 1, 0, "x,;y,b;z,b");
        makes("a,;,", FILL, 0, 0, "a,;a,");
        Check.says("Term II", "some does so with a text that isn't empty");
        cannot(";;", FILL, 0, 0);
        cannot("", FILL, 0, 0);
        cannot(";a;b", FILL, 0, 0);
        cannot("a,;b,", FILL, 1, 0);
        cannot("a,x;b,", FILL, 0, 0);
        makes("a;", FILL, 0, 0, "a;a");
        Check.says("Term II", "12 KEEP a: rows with an empty cell a go; some go, some stay");
        makes("a,;b,1;c,;d,2", KEEP, 1, 0, "b,1;d,2");
        makes(";a", KEEP, 0, 0, "a");
        makes("a;", KEEP, 0, 0, "a");
        makes("a,;,b", KEEP, 0, 0, "a,");
        cannot("a;b", KEEP, 0, 0);
        cannot("a,;b,", KEEP, 0, 0);
        cannot(";", KEEP, 0, 0);
        cannot(",a;,b", KEEP, 0, 0);
        cannot("", KEEP, 0, 0);
        Check.says("Term II", "13 HEAD: row 0 goes; R is 2 or more");
        makes("a,b;c,d;e,f", HEAD, 0, 0, "c,d;e,f");
        makes("a;b", HEAD, 0, 0, "b");
        makes("1;2;3;4;5;6;7;8;9;10;11;12", HEAD, 0, 0, "2;3;4;5;6;7;8;9;10;11;12");
        cannot("a,b", HEAD, 0, 0);
    }

    private static void fold() {
        Check.says("Term II", "6 FOLD a (1 .. C - 1)");
        makes("k,x,y;a,1,2", FOLD, 1, 0, "a,x,1;a,y,2");
        makes("k,x,y;a,1,2", FOLD, 2, 0, "a,1,y,2");
        cannot("k,x,y;a,1,2", FOLD, 0, 0);
        cannot("k,x,y;a,1,2", FOLD, 3, 0);
        cannot("k;a", FOLD, 0, 0);
        cannot("k;a", FOLD, 1, 0);
        Check.says("Term II", "R is 2 or more; row 0 are names");
        cannot("k,x,y", FOLD, 1, 0);
        makes("k,x;a,1", FOLD, 1, 0, "a,x,1");
        Check.says("Term II", "of each other row, one behind the other, each cell j from a on becomes a row");
        makes("k,x,y;a,1,2;b,3,4", FOLD, 1, 0, "a,x,1;a,y,2;b,x,3;b,y,4");
        makes("k,l,y;a,b,2;c,d,3", FOLD, 2, 0, "a,b,y,2;c,d,y,3");
        makes(",,;,,", FOLD, 1, 0, ",,;,,");
    }

    private static void unfold() {
        Check.says("Term II", "7 UNFOLD: C is 3 or more");
        makes("a,x,1", UNFOLD, 0, 0, ",x;a,1");
        cannot("x,1;y,2", UNFOLD, 0, 0);
        cannot("x", UNFOLD, 0, 0);
        Check.says("Term II", "as many empty cells as are ahead, then the names, as they come first");
        makes("a,b,y,1;a,c,x,2;a,b,x,3", UNFOLD, 0, 0, ",,y,x;a,b,1,3;a,c,,2");
        makes("a,,1", UNFOLD, 0, 0, ",;a,1");
        Check.says("Term II", "for each beginning, as they come first: it, and its cells under their names (empty without one)");
        makes("b,x,1;b,y,2;a,x,3;a,y,4", UNFOLD, 0, 0, ",x,y;b,1,2;a,3,4");
        makes("a,x,1;b,y,2;a,z,3", UNFOLD, 0, 0, ",x,y,z;a,1,,3;b,,2,");
        makes("a,b,x,1;b,b,x,2;a,c,x,3", UNFOLD, 0, 0, ",,x;a,b,1;b,b,2;a,c,3");
        Check.says("Term II", "no beginning has a name twice");
        cannot("a,x,1;a,x,2", UNFOLD, 0, 0);
        cannot("a,x,1;a,x,1", UNFOLD, 0, 0);
        cannot("a,x,1;b,x,2;a,x,1", UNFOLD, 0, 0);
        cannot("b,x,1;a,,2;a,,2", UNFOLD, 0, 0);
        makes("a,x,1;b,x,2", UNFOLD, 0, 0, ",x;a,1;b,2");
    }

    /** What UNFOLD and others leave behind must not show in a smaller or larger table made next. */
    private static void oneBehindTheOther() {
        Check.says("Term II", "(empty without one)");
        TableWays x = new TableWays();
        Check.table(x, 0, "p,q,r,s,t,u;p,q,r,s,t,u;p,q,r,s,t,u;p,q,r,s,t,u;p,q,r,s,t,u");
        x.step(0, SINGLE, 0, 0);
        Check.table(x, 0, "a,x,1;b,y,2;c,z,3;d,x,4");
        Check.due("UNFOLD", x.step(0, UNFOLD, 0, 0), 5);
        Check.due("UNFOLD", Check.read(x, 0), ",x,y,z;a,1,,;b,,2,;c,,,3;d,4,,");
    }

    private static void sort() {
        Check.says("Term II", "8 SORT a: rows by the bytes of column a");
        makes("b,1;a,2", SORT, 0, 0, "a,2;b,1");
        makes("1,b;2,a", SORT, 1, 0, "2,a;1,b");
        makes("z;1;-;.;/;:;a", SORT, 0, 0, "-;.;/;1;:;a;z");
        makes("10;9;2", SORT, 0, 0, "10;2;9");
        makes("zaaaaaa;az", SORT, 0, 0, "az;zaaaaaa");
        makes("l;k;j;i;h;g;f;e;d;c;b;a", SORT, 0, 0, "a;b;c;d;e;f;g;h;i;j;k;l");
        Check.says("Term II", "(a text ahead of those that it begins)");
        makes("ab;a;", SORT, 0, 0, ";a;ab");
        makes("abcdefg;abcdef;b;abd", SORT, 0, 0, "abcdef;abcdefg;abd;b");
        makes("a-;a", SORT, 0, 0, "a;a-");
        cannot(";a;ab;abc", SORT, 0, 0);
        Check.says("Term II", "those alike as they were");
        makes("b,1;a,2;b,3;a,4", SORT, 0, 0, "a,2;a,4;b,1;b,3");
        makes("c,9;a,3;a,1;a,2", SORT, 0, 0, "a,3;a,1;a,2;c,9");
        Check.says("Term II", "some row moves");
        cannot("a;a;b", SORT, 0, 0);
        cannot("a", SORT, 0, 0);
        cannot("a,2;a,1", SORT, 0, 0);
        makes("a;b;a", SORT, 0, 0, "a;a;b");
        makes("a,2;a,1", SORT, 1, 0, "a,1;a,2");
    }

    private static void single() {
        Check.says("Term II", "9 SINGLE: rows that are as an earlier one go; there are some");
        makes("a,b;c,d;a,b;a,c;c,d", SINGLE, 0, 0, "a,b;c,d;a,c");
        makes(";", SINGLE, 0, 0, "");
        makes("a;a;a;a;a;a;a;a;a;a;a;a", SINGLE, 0, 0, "a");
        makes("a,b,c;a,b,d;a,b,c", SINGLE, 0, 0, "a,b,c;a,b,d");
        cannot("a,b;a,c", SINGLE, 0, 0);
        cannot("a,b;c,b", SINGLE, 0, 0);
        cannot("a", SINGLE, 0, 0);
    }

    private static void count() {
        Check.says("Term II", "10 COUNT a: a row for each text of column a, as they come first: it, and how many rows have it");
        makes("b,1;a,2;b,3;,4", COUNT, 0, 0, "b,2;a,1;,1");
        makes("x,1,y;x,2,y", COUNT, 1, 0, "1,1;2,1");
        makes("x,1,y;x,2,y", COUNT, 2, 0, "y,2");
        makes("", COUNT, 0, 0, ",1");
        makes("a;a;a;a;a;a;a;a;a", COUNT, 0, 0, "a,9");
        makes("a;a;a;a;a;a;a;a;a;a", COUNT, 0, 0, "a,10");
        makes("a;a;a;a;a;a;a;a;a;a;a;a", COUNT, 0, 0, "a,12");
        makes("a;b;c;d;e;f;g;h;i;j;k;l", COUNT, 0, 0, "a,1;b,1;c,1;d,1;e,1;f,1;g,1;h,1;i,1;j,1;k,1;l,1");
        makes("1,2,3,4,5,6", COUNT, 5, 0, "6,1");
    }

    private static void sum() {
        Check.says("Term II", "11 SUM a b: likewise: it, and the sum of column b in its rows");
        makes("a,1;b,2;a,3", SUM, 0, 1, "a,4;b,2");
        makes("1,a;2,b;3,a", SUM, 1, 0, "a,4;b,2");
        makes("1,2,3,4,5,6", SUM, 5, 4, "6,5");
        Check.says("Term II", "a and b are two");
        cannot("1,1", SUM, 0, 0);
        cannot("1,1", SUM, 1, 1);
        cannot("1", SUM, 0, 0);
        Check.says("Term II", "all cells of b are NUMBERS");
        cannot("a,1;b,", SUM, 0, 1);
        cannot("a,;b,1", SUM, 0, 1);
        cannot("a,1;b,1a", SUM, 0, 1);
        cannot("a,1;b,1234567", SUM, 0, 1);
        cannot("a,1-2", SUM, 0, 1);
        makes(",1", SUM, 0, 1, ",1");
        Check.says("Term II", "all sums below 1000000");
        makes("a,999999", SUM, 0, 1, "a,999999");
        makes("a,999998;a,1", SUM, 0, 1, "a,999999");
        makes("a,999999;b,999999", SUM, 0, 1, "a,999999;b,999999");
        cannot("a,999999;a,1", SUM, 0, 1);
        cannot("b,1;a,999999;a,999999", SUM, 0, 1);
        cannot("a,500000;b,1;a,500000", SUM, 0, 1);
        Check.says("Term II", "(told without 0s ahead)");
        makes("a,00010;b,100", SUM, 0, 1, "a,10;b,100");
        makes("000,a;0,a;00,b", SUM, 1, 0, "a,0;b,0");
        makes("a,000001;b,090909", SUM, 0, 1, "a,1;b,90909");
        makes("a,95;a,5;b,999;b,1", SUM, 0, 1, "a,100;b,1000");
    }

    public static void main(String[] args) {
        otherNumbers();
        any();
        tooLarge();
        turnDropSwap();
        splitJoin();
        fillKeepHead();
        fold();
        unfold();
        oneBehindTheOther();
        sort();
        single();
        count();
        sum();
        Check.end();
    }
}
