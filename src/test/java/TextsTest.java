/** Promises 2 to 6: the tape, the texts of tables and ways, and their FAULTS. */
public final class TextsTest {
    private static void tableFault(String text, int kind, int place) {
        TableWays x = new TableWays();
        Check.table(x, 2, "a,b;c,d");
        Check.due("table " + text, Check.table(x, 2, text), TableWays.NONE);
        Check.due("kind of " + text, x.fault(0), kind);
        Check.due("place of " + text, x.fault(1), place);
        Check.due("kept", Check.read(x, 2), "a,b;c,d");
        Check.due("tape is empty", x.count(0), 0);
    }

    private static void tableIs(String text) {
        TableWays x = new TableWays();
        Check.table(x, 0, "A");
        Check.due("table " + text, Check.table(x, 2, text), text.split(";", -1).length);
        Check.due("table " + text, Check.read(x, 2), text);
        Check.due("kind", x.fault(0), 0);
        Check.due("place", x.fault(1), TableWays.NONE);
        Check.due("tape is empty", x.count(0), 0);
    }

    private static void wayFault(String text, int kind, int place) {
        TableWays x = new TableWays();
        Check.way(x, 5, "drop 3;");
        Check.due("way " + text, Check.way(x, 5, text), TableWays.NONE);
        Check.due("kind of " + text, x.fault(0), kind);
        Check.due("place of " + text, x.fault(1), place);
        Check.due("kept", Check.readWay(x, 5), "2.3.0");
        Check.due("tape is empty", x.count(0), 0);
    }

    private static void wayIs(String text, String steps) {
        TableWays x = new TableWays();
        Check.way(x, 0, "A");
        int n = steps.isEmpty() ? 0 : steps.split(" ").length;
        Check.due("way " + text, Check.way(x, 5, text), n);
        Check.due("way " + text, Check.readWay(x, 5), steps);
        Check.due("kind", x.fault(0), 0);
        Check.due("place", x.fault(1), TableWays.NONE);
        Check.due("tape is empty", x.count(0), 0);
    }

    private static void tape() {
        TableWays x = new TableWays();
        Check.due("end(0) at first", x.end(0), 0);
        Check.due("end(1) at first", x.end(1), TableWays.NONE);
        Check.due("end below 0", x.end(-1), TableWays.NONE);
        Check.due("feed", x.feed(0x61626364, 0x65000000, 0, 0, -1), 20);
        Check.due("end(21)", x.end(21), TableWays.NONE);
        Check.due("tape", x.count(0), 20);
        Check.due("end(5)", x.end(5), 5);
        Check.due("feed", x.feed(0x2c666768, 0, 0, 0, 0), 25);
        Check.due("end(9)", x.end(9), 9);
        Check.due("table", x.table(0), 1);
        Check.due("table", Check.read(x, 0), "abcde,fgh");
        for (int i = 1; i <= 50; i++) {
            Check.due("feed " + i, x.feed(0x2020200a, 0x20202020, 0x20202020, 0x20202020, 0x20202020), 20 * i);
        }
        Check.due("feed at 1000", x.feed(0, 0, 0, 0, 0), TableWays.FULL);
        Check.due("tape at 1000", x.count(0), 1000);
        Check.due("end(981)", x.end(981), 981);
        Check.due("feed at 981", x.feed(0, 0, 0, 0, 0), TableWays.FULL);
        Check.due("end(980)", x.end(980), 980);
        Check.due("feed at 980", x.feed(0x20202020, 0x20202020, 0x20202020, 0x20202020, 0x2020203b), 1000);
        Check.due("way of 1000 bytes", x.way(0), TableWays.NONE);
        Check.due("its fault", x.fault(1), 999);
        Check.due("tape", x.count(0), 0);
    }

    /** A call that answers RANGE reads THE TAPE too: it is empty then, and nothing else has changed. */
    private static void tapeAfterRange() {
        int[] wrong = {-1, 8, 9, Integer.MIN_VALUE, Integer.MAX_VALUE};
        for (int i : wrong) {
            TableWays x = new TableWays();
            Check.tell(x, "a,b;c,d");
            Check.due("table(" + i + ")", x.table(i), TableWays.RANGE);
            Check.due("table(" + i + ") empties the tape", x.count(0), 0);
            Check.due("end(1) behind table(" + i + ")", x.end(1), TableWays.NONE);
            Check.due("table(0) of nothing", x.table(0), 1);
            Check.due("table(0) of nothing", Check.read(x, 0), "");
            Check.tell(x, "turn;");
            Check.due("way(" + i + ")", x.way(i), TableWays.RANGE);
            Check.due("way(" + i + ") empties the tape", x.count(0), 0);
            Check.due("way(0) of nothing", x.way(0), 0);
            Check.due("no way has a step", x.count(1), 0);
            Check.due("feed behind RANGE", x.feed(0, 0, 0, 0, 0), 20);
            Check.due("table(" + i + ") of a wrong text", x.table(i), TableWays.RANGE);
            Check.due("no fault of it", x.fault(0), 0);
            Check.due("feed behind RANGE", x.feed(0, 0, 0, 0, 0), 20);
            Check.due("way(" + i + ") of a wrong text", x.way(i), TableWays.RANGE);
            Check.due("no fault of it", x.fault(1), TableWays.NONE);
            Check.due("feed behind RANGE", x.feed(0, 0, 0, 0, 0), 20);
        }
    }

    private static void fault() {
        TableWays x = new TableWays();
        Check.due("fault ahead of any", x.fault(0), 0);
        Check.due("fault ahead of any", x.fault(1), TableWays.NONE);
        Check.due("another fault", x.fault(2), TableWays.NONE);
        Check.due("another fault", x.fault(-1), TableWays.NONE);
        Check.way(x, 0, " turn");
        Check.due("fault", x.fault(0), 1);
        Check.due("fault", x.fault(1), 5);
        Check.table(x, 9, "a");
        Check.due("RANGE aside", x.fault(0), 1);
        Check.due("RANGE aside", x.fault(1), 5);
        Check.way(x, 9, "drop 9;");
        Check.due("RANGE aside", x.fault(0), 1);
        Check.due("RANGE aside", x.fault(1), 5);
        Check.due("another fault", x.fault(2), TableWays.NONE);
        Check.table(x, 0, "a");
        Check.due("fault is gone", x.fault(0), 0);
        Check.due("fault is gone", x.fault(1), TableWays.NONE);
    }

    private static void tables() {
        tableIs("");
        tableIs(";");
        tableIs(",");
        tableIs(",;,");
        tableIs("abcdefg,0123456;-:/.,?");
        tableIs("1,2,3,4,5,6;,,,,,");
        tableIs("1;2;3;4;5;6;7;8;9;10;11;12");
        tableIs("?;?");
        tableFault("A", 1, 0);
        tableFault("a b", 1, 1);
        tableFault("a\n", 1, 1);
        tableFault("ab,{", 1, 3);
        tableFault("`", 1, 0);
        tableFault("a\u0000", 1, 1);
        tableFault("\u00ff", 1, 0);
        tableFault("a?", 1, 1);
        tableFault("?a", 1, 1);
        tableFault("??", 1, 1);
        tableFault("?A", 1, 1);
        tableFault("abcdefgh", 2, 7);
        tableFault("x,abcdefgh", 2, 9);
        tableFault("abcdefg?", 1, 7);
        tableFault("abcdefgA", 1, 7);
        tableFault("a,b;c", 3, 5);
        tableFault("a,b;c;d,e", 3, 5);
        tableFault("a;b,c", 3, 3);
        tableFault("a,b;", 3, 4);
        tableFault("a,b;c,d,", 3, 7);
        tableFault("1,2,3,4,5,6,7", 4, 11);
        tableFault("1,2,3,4,5,6;1,2,3,4,5,6,7", 3, 23);
        tableFault("1;2;3;4;5;6;7;8;9;0;1;2;", 4, 23);
        tableFault("1;2;3;4;5;6;7;8;9;0;1;2,", 3, 23);
        tableFault(",;,;,;,;,;,;,;,;,;,;,;;,", 3, 22);
        tableFault("a;b,cdefghijk", 3, 3);
    }

    private static void ways() {
        wayIs("", "");
        wayIs(" \n ", "");
        wayIs("turn;drop 1;split 2 -;fill 3;join 4 :;fold 5;unfold;", "1.0.0 2.1.0 3.2.0 4.3.0 5.4.1 6.5.0 7.0.0");
        wayIs("sort 0;single;count 1;sum 2 3;keep 4;head;swap 5;", "8.0.0 9.0.0 10.1.0 11.2.3 12.4.0 13.0.0 14.5.0");
        wayIs("split 0 /; split 0.;join0-;sum 01 ;", "3.0.2 3.0.3 5.0.0 11.0.1");
        wayIs("sum\n5\n5\n;", "11.5.5");
        wayIs("repeat 1 { }", "");
        wayIs("repeat 6{turn;head;}", "1.0.0 13.0.0 1.0.0 13.0.0 1.0.0 13.0.0 1.0.0 13.0.0 1.0.0 13.0.0 1.0.0 13.0.0");
        wayIs("head; repeat 2 {turn; repeat 2 {drop 1;} } head;", "13.0.0 1.0.0 2.1.0 2.1.0 1.0.0 2.1.0 2.1.0 13.0.0");
        wayIs("repeat 2{repeat 2{repeat 2{turn;}}}repeat 1{}", "1.0.0 1.0.0 1.0.0 1.0.0 1.0.0 1.0.0 1.0.0 1.0.0");
        wayIs("repeat 6{turn;turn;}repeat 6{repeat 6{}}", "1.0.0 1.0.0 1.0.0 1.0.0 1.0.0 1.0.0 1.0.0 1.0.0 1.0.0 1.0.0 1.0.0 1.0.0");
        wayFault("Turn;", 1, 0);
        wayFault("turns;", 1, 0);
        wayFault("tur;", 1, 0);
        wayFault("turn turn;", 1, 5);
        wayFault("turn 1;", 1, 5);
        wayFault("turn}", 1, 4);
        wayFault("drop;", 1, 4);
        wayFault("drop 12;", 1, 6);
        wayFault("drop 1", 1, 6);
        wayFault("drop  ", 1, 6);
        wayFault("drop -;", 1, 5);
        wayFault("split 1;", 1, 7);
        wayFault("split - 1;", 1, 6);
        wayFault("split 1 ?;", 1, 8);
        wayFault("sum 1;", 1, 5);
        wayFault("sum 1 -;", 1, 6);
        wayFault("}", 1, 0);
        wayFault("{", 1, 0);
        wayFault(";", 1, 0);
        wayFault("9", 1, 0);
        wayFault("turn;;", 1, 5);
        wayFault("repeat {", 1, 7);
        wayFault("repeat 2 turn;", 1, 9);
        wayFault("repeat 2 {turn;", 1, 15);
        wayFault("repeat 2 {turn;} }", 1, 17);
        wayFault("repeat 2 {turn}", 1, 14);
        wayFault("repeat 2 {} ;", 1, 12);
        wayFault("\tturn;", 1, 0);
        wayFault("turn;\u0000", 1, 5);
        wayFault("turn;\u00f4", 1, 5);
        wayFault("drop 6;", 2, 5);
        wayFault("drop 9", 2, 5);
        wayFault("sum 6 6;", 2, 4);
        wayFault("sum 5 6;", 2, 6);
        wayFault("join 7 -;", 2, 5);
        wayFault("repeat 0 {}", 2, 7);
        wayFault("repeat 7 {}", 2, 7);
        wayFault("repeat 1{repeat 1{repeat 1{repeat 1{}}}}", 3, 35);
        wayFault("repeat 1{repeat 1{repeat 1{repeat 1 {{", 3, 36);
        wayFault("repeat 6{turn;turn;}turn;", 3, 20);
        wayFault("repeat 6{turn;turn;}turns;", 1, 20);
        wayFault("repeat 6{turn;turn;}repeat 2{head", 3, 29);
        wayFault("repeat 5{turn;turn;turn;} head", 3, 24);
        wayFault("turn;repeat 6{turn;turn;}", 3, 24);
        wayFault("repeat 2{turn;repeat 6{turn;turn;}}", 3, 33);
        wayFault("repeat 2{turn;repeat 3{turn;turn;}}", 3, 34);
        wayFault("repeat 3{turn;turn;turn;turn;turn;turn;turn;turn;turn;turn;turn;turn;turn;", 3, 69);
    }

    public static void main(String[] args) {
        tape();
        tapeAfterRange();
        fault();
        tables();
        ways();
        Check.end();
    }
}
