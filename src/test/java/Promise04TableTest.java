/** Promise 4: table. */
public final class Promise04TableTest {
    private static final String SIX = "1,2,3,4,5,6";
    private static final String TWELVE = "1;2;3;4;5;6;7;8;9;0;1;2";

    private static void reads(String text) {
        TableWays x = Check.furnished();
        x.end(0);
        Check.due("table of " + text, Check.table(x, 2, text), text.split(";", -1).length);
        Check.due("table of " + text, Check.read(x, 2), text);
        Check.due("its fault's kind", x.fault(0), 0);
        Check.due("its fault's place", x.fault(1), TableWays.NONE);
        Check.due("the tape is read", x.count(0), 0);
        Check.due("another table stays", Check.read(x, 1), "a,1;b,2;a,3");
    }

    private static void fault(String text, int kind, int place) {
        TableWays x = Check.furnished();
        x.end(0);
        Check.due("table of " + text, Check.table(x, 0, text), TableWays.NONE);
        Check.due("kind of " + text, x.fault(0), kind);
        Check.due("place of " + text, x.fault(1), place);
        Check.due("the table stays", Check.read(x, 0), "a,b;c,d");
        Check.due("the tape is read", x.count(0), 0);
    }

    private static void rows() {
        Check.says("Promise 4", "THE TAPE (read) is TABLE t: how many rows");
        reads("");
        reads(";");
        reads(",");
        reads(",;,");
        reads("a");
        reads("a;b");
        reads("?;?");
        reads("abcdefg,0123456;-:/.,?");
        reads(SIX);
        reads(",,,,,;" + SIX);
        reads(TWELVE);
        reads(";;;;;;;;;;;");
        for (int t = 0; t < 8; t++) {
            TableWays x = new TableWays();
            Check.due("table(" + t + ")", Check.table(x, t, "q;r"), 2);
            for (int other = 0; other < 8; other++) {
                Check.due("table " + other, Check.read(x, other), other == t ? "q;r" : "");
            }
        }
    }

    private static void range() {
        Check.says("Promise 4", "RANGE: no such TABLE");
        for (int t : Check.OFF_SHELF) {
            for (String text : new String[] {"p,q", "A", ""}) {
                TableWays x = Check.furnished();
                x.end(0);
                String before = Check.all(x);
                Check.tell(x, text);
                Check.due("table(" + t + ") of " + text, x.table(t), TableWays.RANGE);
                Check.due("it reads the tape", x.count(0), 0);
                Check.due("it leaves all else", Check.all(x), before);
            }
        }
    }

    private static void kind1() {
        Check.says("Promise 4", "1 one that no cell has");
        fault("A", 1, 0);
        fault("a b", 1, 1);
        fault("a\n", 1, 1);
        fault("ab,{", 1, 3);
        fault("a,b;c,d;_", 1, 8);
        fault("`", 1, 0);
        fault("a\u0000", 1, 1);
        fault("\u00ff", 1, 0);
        Check.says("Promise 4", "a ? behind others");
        fault("a?", 1, 1);
        fault("x,-?", 1, 3);
        fault("abcdefg?", 1, 7);
        reads("a,?");
        Check.says("Promise 4", "or one behind a ?");
        fault("?a", 1, 1);
        fault("??", 1, 1);
        fault("?A", 1, 1);
        fault("b;?-", 1, 3);
        reads("?,a;?,b");
    }

    private static void kind2() {
        Check.says("Promise 4", "2 the eighth of a cell");
        reads("abcdefg");
        fault("abcdefgh", 2, 7);
        fault("abcdefghi", 2, 7);
        fault("x,abcdefgh", 2, 9);
        fault("x;-:/.-:/.", 2, 9);
        reads("abcdefg,hijklmn;opqrstu,vwxyz01");
    }

    private static void kind3() {
        Check.says("Promise 4", "3 the ; or end of a row with fewer columns than the first one");
        fault("a,b;c", 3, 5);
        fault("a,b;", 3, 4);
        fault("a,b;;", 3, 4);
        fault("a,b;c;d,e", 3, 5);
        fault("a,b;c,d;e", 3, 9);
        fault(SIX + ";1,2,3,4,5", 3, 21);
        Check.says("Promise 4", "or a , with which it has more");
        fault("a;b,c", 3, 3);
        fault("a,b;c,d,", 3, 7);
        fault(";,", 3, 1);
        fault("a,b;c,d;e,f,g", 3, 11);
    }

    private static void kind4() {
        Check.says("Promise 4", "4 the 7th column's , or the 13th row's ; ahead of it");
        reads(SIX);
        fault(SIX + ",", 4, 11);
        fault(SIX + ",7", 4, 11);
        fault(",,,,,,", 4, 5);
        reads(TWELVE);
        fault(TWELVE + ";", 4, 23);
        fault(TWELVE + ";3", 4, 23);
        fault(";;;;;;;;;;;;", 4, 11);
    }

    private static void firstByteLeastKind() {
        Check.says("Promise 4", "the first byte (of one byte the least KIND)");
        fault("A,bcdefghijk", 1, 0);
        fault("abcdefghA", 2, 7);
        fault("a;b,cdefghijkA", 3, 3);
        fault(SIX + ",A", 4, 11);
        fault("abcdefgA", 1, 7);
        fault(SIX + ";" + SIX + ",7", 3, 23);
        fault("1;2;3;4;5;6;7;8;9;0;1;2,", 3, 23);
        fault(",;,;,;,;,;,;,;,;,;,;,;;,", 3, 22);
    }

    /** Nothing of a text with a FAULT is left to the next one. */
    private static void behindAFault() {
        Check.says("Promise 4", "THE TAPE (read) is TABLE t");
        String[] wrong = {"?a", "ab,cdA", "a,b;c", "abcdefgh", SIX + ",", TWELVE + ";", "a,?;b,?,", ";;;,"};
        String[] good = {"", "b", "c,d;e,?", SIX, TWELVE};
        for (String w : wrong) {
            for (String g : good) {
                TableWays x = new TableWays();
                Check.due("table of " + w, Check.table(x, 0, w), TableWays.NONE);
                Check.due("table of " + g + " behind it", Check.table(x, 0, g), g.split(";", -1).length);
                Check.due("table of " + g + " behind it", Check.read(x, 0), g);
            }
        }
    }

    public static void main(String[] args) {
        rows();
        behindAFault();
        range();
        kind1();
        kind2();
        kind3();
        kind4();
        firstByteLeastKind();
        Check.end();
    }
}
