/** Promises 11 and 12: every STEP, what it makes and when it CAN'T BE; and walking. */
public final class StepsTest {
    private static void makes(String in, int step, int a, int b, String out) {
        TableWays x = new TableWays();
        Check.table(x, 3, in);
        String what = "step " + step + " " + a + " " + b + " of " + in;
        Check.due(what, x.step(3, step, a, b), out.split(";", -1).length);
        Check.due(what, Check.read(x, 3), out);
    }

    private static void cannot(String in, int step, int a, int b) {
        TableWays x = new TableWays();
        Check.table(x, 3, in);
        String what = "step " + step + " " + a + " " + b + " of " + in;
        Check.due(what, x.step(3, step, a, b), TableWays.NONE);
        Check.due(what, Check.read(x, 3), in);
    }

    private static void turnDropSwap() {
        makes("a,b,c;d,e,f", 1, 0, 0, "a,d;b,e;c,f");
        makes("", 1, 0, 0, "");
        makes("1;2;3;4;5;6", 1, 0, 0, "1,2,3,4,5,6");
        cannot("1;2;3;4;5;6;7", 1, 0, 0);
        cannot("a,b", 1, 1, 0);
        cannot("a,b", 1, 0, 1);
        cannot("a,b", 1, 0, -1);
        makes("a,b,c;d,e,f", 2, 1, 0, "a,c;d,f");
        makes("a,b,c;d,e,f", 2, 0, 0, "b,c;e,f");
        makes("a,b,c;d,e,f", 2, 2, 0, "a,b;d,e");
        cannot("a,b,c", 2, 3, 0);
        cannot("a,b,c", 2, -1, 0);
        cannot("a,b,c", 2, 0, 1);
        cannot("a;b", 2, 0, 0);
        makes("a,b,c;d,e,f", 14, 1, 0, "a,c,b;d,f,e");
        makes("a,a", 14, 0, 0, "a,a");
        cannot("a,b,c", 14, 2, 0);
        cannot("a", 14, 0, 0);
        cannot("a,b", 14, 0, 1);
        cannot("a,b", 14, -1, 0);
    }

    private static void splitJoin() {
        makes("x,a-b-c,y;z,d,w", 3, 1, 0, "x,a,b-c,y;z,d,,w");
        makes("-", 3, 0, 0, ",");
        makes("1:2;:x;x:", 3, 0, 1, "1,2;,x;x,");
        makes("a/b", 3, 0, 2, "a,b");
        makes("abc.def", 3, 0, 3, "abc,def");
        cannot("a-b", 3, 0, 1);
        cannot("a-b", 3, 0, 4);
        cannot("a-b", 3, 0, -1);
        cannot("a-b", 3, 1, 0);
        cannot("ab,c-d", 3, 0, 0);
        cannot("a-b,,,,,", 3, 0, 0);
        makes("a-b,,,,", 3, 0, 0, "a,b,,,,");
        makes("a,b,c;,,d", 5, 0, 0, "a-b,c;-,d");
        makes("a,b,c", 5, 1, 1, "a,b:c");
        makes("abc,def", 5, 0, 2, "abc/def");
        makes("abcdef,", 5, 0, 3, "abcdef.");
        makes(",abcdef", 5, 0, 3, ".abcdef");
        cannot("abcd,def", 5, 0, 2);
        cannot("a,b;abcdefg,", 5, 0, 2);
        cannot("a,b", 5, 1, 0);
        cannot("a,b", 5, 0, 4);
        cannot("a", 5, 0, 0);
    }

    private static void fillSortSingleKeepHead() {
        makes(",1;a,2;,3;,4;b,5;,6", 4, 0, 0, ",1;a,2;a,3;a,4;b,5;b,6");
        cannot(";;", 4, 0, 0);
        cannot(";a;b", 4, 0, 0);
        cannot("a,;b,", 4, 1, 0);
        cannot("a;", 4, 1, 0);
        cannot("a;", 4, 0, 1);
        makes("b,1;a,2;b,3;a,4", 8, 0, 0, "a,2;a,4;b,1;b,3");
        makes("ab;a;;z;1;-;.;/;:", 8, 0, 0, ";-;.;/;1;:;a;ab;z");
        makes("abcdefg;abcdef;b;abd", 8, 0, 0, "abcdef;abcdefg;abd;b");
        makes("10;9;2", 8, 0, 0, "10;2;9");
        cannot("a;a;b", 8, 0, 0);
        cannot("a", 8, 0, 0);
        cannot("b;a", 8, 1, 0);
        cannot("b;a", 8, 0, 1);
        makes("a,b;c,d;a,b;a,c;c,d", 9, 0, 0, "a,b;c,d;a,c");
        cannot("a,b;a,c", 9, 0, 0);
        cannot("a;a", 9, 1, 0);
        makes("a,;b,1;c,;d,2", 12, 1, 0, "b,1;d,2");
        cannot("a;b", 12, 0, 0);
        cannot(";", 12, 0, 0);
        cannot(";a", 12, 1, 0);
        cannot(";a", 12, 0, 1);
        makes("a,b;c,d;e,f", 13, 0, 0, "c,d;e,f");
        cannot("a,b", 13, 0, 0);
        cannot("a;b", 13, 1, 0);
    }

    private static void foldUnfold() {
        makes("k,x,y;a,1,2;b,3,4", 6, 1, 0, "a,x,1;a,y,2;b,x,3;b,y,4");
        makes("k,l,y;a,b,2", 6, 2, 0, "a,b,y,2");
        makes("n,a,b,c,d,e;1,2,3,4,5,6", 6, 4, 0, "1,2,3,4,d,5;1,2,3,4,e,6");
        cannot("n,a,b,c,d,e;1,2,3,4,5,6", 6, 5, 0);
        cannot("k,x,y;a,1,2", 6, 0, 0);
        cannot("k,x,y;a,1,2", 6, 3, 0);
        cannot("k,x,y;a,1,2", 6, 1, 1);
        cannot("k,x,y", 6, 1, 0);
        cannot("k,x,y;1,,;2,,;3,,;4,,;5,,;6,,;7,,", 6, 1, 0);
        makes("k,x,y;1,,;2,,;3,,;4,,;5,,;6,,", 6, 1, 0,
            "1,x,;1,y,;2,x,;2,y,;3,x,;3,y,;4,x,;4,y,;5,x,;5,y,;6,x,;6,y,");
        makes("a,x,1;a,y,2;b,x,3;b,y,4", 7, 0, 0, ",x,y;a,1,2;b,3,4");
        makes("a,x,1;b,y,2;a,z,3", 7, 0, 0, ",x,y,z;a,1,,3;b,,2,");
        makes("a,b,x,1;a,c,x,2", 7, 0, 0, ",,x;a,b,1;a,c,2");
        makes("a,,1", 7, 0, 0, ",;a,1");
        cannot("a,x,1;a,x,2", 7, 0, 0);
        cannot("a,x,1;b,x,2;a,x,1", 7, 0, 0);
        cannot("x,1;y,2", 7, 0, 0);
        cannot("a,x,1", 7, 1, 0);
        makes("a,1,;a,2,;a,3,;a,4,;a,5,", 7, 0, 0, ",1,2,3,4,5;a,,,,,");
        cannot("a,1,;a,2,;a,3,;a,4,;a,5,;a,6,", 7, 0, 0);
        cannot("a,x,;b,x,;c,x,;d,x,;e,x,;f,x,;g,x,;h,x,;i,x,;j,x,;k,x,;l,x,", 7, 0, 0);
        makes("a,x,;b,x,;c,x,;d,x,;e,x,;f,x,;g,x,;h,x,;i,x,;j,x,;k,x,", 7, 0, 0,
            ",x;a,;b,;c,;d,;e,;f,;g,;h,;i,;j,;k,");
    }

    private static void countSum() {
        makes("a,1;b,2;a,3;,4", 10, 0, 0, "a,2;b,1;,1");
        makes("a;a;a;a;a;a;a;a;a;a;a;a", 10, 0, 0, "a,12");
        makes("x,1,y;x,2,y", 10, 1, 0, "1,1;2,1");
        cannot("a", 10, 1, 0);
        cannot("a", 10, 0, 1);
        makes("a,1;b,2;a,03", 11, 0, 1, "a,4;b,2");
        makes("000,a;0,a;00,b", 11, 1, 0, "a,0;b,0");
        makes("a,999998;a,1", 11, 0, 1, "a,999999");
        makes("a,00010;b,100", 11, 0, 1, "a,10;b,100");
        cannot("a,999999;a,1", 11, 0, 1);
        cannot("b,1;a,999999;a,999999", 11, 0, 1);
        cannot("a,1;b,", 11, 0, 1);
        cannot("a,1;b,1a", 11, 0, 1);
        cannot("a,1;b,1234567", 11, 0, 1);
        cannot("1,1", 11, 0, 0);
        cannot("1,1", 11, 0, 2);
        cannot("1,1", 11, 2, 0);
        cannot("1,1", 11, -1, 0);
        cannot("1,1", 11, 0, -1);
    }

    private static void anyAndRange() {
        for (int step = 1; step <= 14; step++) {
            cannot("b,a-b,1;,?,2;a,c,3;a,c,3", step, step == 6 ? 1 : 0, step == 11 ? 2 : 0);
        }
        TableWays x = new TableWays();
        Check.due("no such table", x.step(8, 1, 0, 0), TableWays.RANGE);
        Check.due("no such table", x.step(-1, 1, 0, 0), TableWays.RANGE);
        Check.due("no such step", x.step(0, 0, 0, 0), TableWays.RANGE);
        Check.due("no such step", x.step(0, 15, 0, 0), TableWays.RANGE);
        Check.due("no such step", x.step(0, -5, 0, 0), TableWays.RANGE);
        for (int step = 1; step <= 14; step++) {
            Check.due("far numbers", x.step(0, step, Integer.MAX_VALUE, 0), TableWays.NONE);
            Check.due("far numbers", x.step(0, step, Integer.MIN_VALUE, Integer.MAX_VALUE), TableWays.NONE);
        }
    }

    private static void walks() {
        TableWays x = new TableWays();
        Check.table(x, 0, "k,x,y;a,1,2;b,3,4");
        Check.due("way", Check.way(x, 0, "fold 1; sum 0 2;"), 2);
        Check.due("walk", x.walk(0, 0, 1), 2);
        Check.due("walked", Check.read(x, 1), "a,3;b,7");
        Check.due("walked from", Check.read(x, 0), "k,x,y;a,1,2;b,3,4");
        Check.due("stopped at 0", x.walk(0, 3, 2), -10);
        Check.due("stopped leaves", Check.read(x, 2), "");
        Check.way(x, 1, "turn; turn; drop 5;");
        Check.due("stopped at 2", x.walk(1, 0, 0), -12);
        Check.due("stopped leaves", Check.read(x, 0), "k,x,y;a,1,2;b,3,4");
        Check.way(x, 1, "repeat 6 {turn; turn;} ");
        Check.due("twelve turns", x.walk(1, 0, 0), 3);
        Check.way(x, 2, "repeat 5 {turn; turn;} turn; split 0 -;");
        Check.due("stopped at the last", x.walk(2, 0, 0), -21);
        Check.way(x, 1, "head;");
        Check.due("to itself", x.walk(1, 0, 0), 2);
        Check.due("to itself", Check.read(x, 0), "a,1,2;b,3,4");
        Check.table(x, 4, "?,a");
        Check.due("no steps on ANY", x.walk(7, 4, 5), 1);
        Check.due("no steps on ANY", Check.read(x, 5), "?,a");
        Check.due("a step on ANY", x.walk(1, 4, 5), -10);
        Check.due("range", x.walk(8, 0, 0), TableWays.RANGE);
        Check.due("range", x.walk(0, 8, 0), TableWays.RANGE);
        Check.due("range", x.walk(0, 0, -1), TableWays.RANGE);
    }

    public static void main(String[] args) {
        turnDropSwap();
        splitJoin();
        fillSortSingleKeepHead();
        foldUnfold();
        countSum();
        anyAndRange();
        walks();
        Check.end();
    }
}
