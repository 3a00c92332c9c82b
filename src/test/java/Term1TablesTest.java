/** Term I: tables, cells, MARKS, NUMBERS, FIT (in Promise10FitsTest), and THE TAPE. */
public final class Term1TablesTest {
    private static void shelf() {
        Check.says("Term I", "TABLES 0 .. 7");
        TableWays x = new TableWays();
        for (int t = 0; t < 8; t++) {
            Check.due("table " + t, Check.table(x, t, "t" + t + ",x"), 1);
        }
        for (int t = 0; t < 8; t++) {
            Check.due("table " + t, Check.read(x, t), "t" + t + ",x");
        }
        Check.due("no table -1", x.size(-1, 0), TableWays.NONE);
        Check.due("no table 8", x.size(8, 0), TableWays.NONE);
    }

    private static String grid(int rows, int columns) {
        StringBuilder s = new StringBuilder();
        for (int r = 0; r < rows; r++) {
            for (int c = 0; c < columns; c++) {
                s.append(c > 0 ? "," : r > 0 ? ";" : "").append((char) ('a' + r)).append(c);
            }
        }
        return s.toString();
    }

    private static void rowsAndColumns() {
        Check.says("Term I", "R is 1 .. 12, C 1 .. 6");
        for (int rows = 1; rows <= 14; rows++) {
            for (int columns = 1; columns <= 8; columns++) {
                boolean can = rows <= 12 && columns <= 6;
                TableWays x = new TableWays();
                String what = rows + " rows, " + columns + " columns";
                Check.due(what, Check.table(x, 0, grid(rows, columns)), can ? rows : TableWays.NONE);
                Check.due(what, Check.read(x, 0), can ? grid(rows, columns) : "");
                Check.due("kind of " + what, x.fault(0), can ? 0 : 4);
            }
        }
        TableWays x = new TableWays();
        Check.table(x, 0, ";;;;;;;;;;;");
        Check.due("COUNT of twelve rows", x.step(0, 10, 0, 0), 1);
        Check.table(x, 0, grid(12, 1));
        Check.due("a step makes twelve rows", x.step(0, 10, 0, 0), 12);
    }

    private static void cellsOfBytes() {
        Check.says("Term I", "Cells are texts of 0 .. 7 bytes");
        String text = "abcdefghi";
        for (int n = 0; n <= 9; n++) {
            TableWays x = new TableWays();
            boolean can = n <= 7;
            Check.due("a cell of " + n, Check.table(x, 0, "x," + text.substring(0, n)), can ? 1 : TableWays.NONE);
            Check.due("a cell of " + n, Check.read(x, 0), can ? "x," + text.substring(0, n) : "");
            Check.due("place of the eighth", x.fault(1), can ? TableWays.NONE : 9);
        }
    }

    private static void whichBytes() {
        Check.says("Term I", "a .. z, 0 .. 9, and the MARKS 0: - 1: : 2: / 3: .");
        for (int b = 0; b < 256; b++) {
            char one = (char) b;
            boolean good = b >= 'a' && b <= 'z' || b >= '0' && b <= '9' || "-:/.".indexOf(one) >= 0;
            boolean sign = one == ',' || one == ';' || one == '?';
            if (sign) {
                continue;
            }
            TableWays x = new TableWays();
            Check.due("byte " + b, Check.table(x, 0, "" + one), good ? 1 : TableWays.NONE);
            Check.due("cell of byte " + b, x.cell(0, 0, 0), good ? b : 0);
            Check.due("kind of byte " + b, x.fault(0), good ? 0 : 1);
            Check.due("byte " + b + " behind another", Check.table(x, 1, "z" + one), good ? 1 : TableWays.NONE);
            Check.due("cell of both", x.cell(1, 0, 0), good ? 'z' * 256 + b : 0);
            Check.due("place of byte " + b, x.fault(1), good ? TableWays.NONE : 1);
        }
    }

    private static void marks() {
        Check.says("Term I", "the MARKS 0: - 1: : 2: / 3: .");
        String marks = "-:/.";
        for (int mark = 0; mark < 4; mark++) {
            for (int other = 0; other < 4; other++) {
                TableWays x = new TableWays();
                Check.table(x, 0, "a" + marks.charAt(other) + "b");
                boolean same = mark == other;
                Check.due("SPLIT at " + mark, x.step(0, 3, 0, mark), same ? 1 : TableWays.NONE);
                Check.due("SPLIT at " + mark, Check.read(x, 0), same ? "a,b" : "a" + marks.charAt(other) + "b");
            }
            TableWays x = new TableWays();
            Check.table(x, 0, "a,b");
            Check.due("JOIN with " + mark, x.step(0, 5, 0, mark), 1);
            Check.due("JOIN with " + mark, Check.read(x, 0), "a" + marks.charAt(mark) + "b");
            Check.way(x, 0, "join 0 " + marks.charAt(mark) + ";");
            Check.due("told in a way", x.stepAt(0, 0, 2), mark);
        }
        for (int mark : new int[] {-1, 4, 5, Integer.MIN_VALUE, Integer.MAX_VALUE}) {
            TableWays x = new TableWays();
            Check.table(x, 0, "-:/.,b");
            Check.due("no MARK " + mark, x.step(0, 3, 0, mark), TableWays.NONE);
            Check.due("no MARK " + mark, x.step(0, 5, 0, mark), TableWays.NONE);
        }
    }

    private static void any() {
        Check.says("Term I", "or ANY, told as ?");
        TableWays x = new TableWays();
        Check.due("table", Check.table(x, 0, "?,a;,?"), 2);
        Check.due("cell", x.cell(0, 0, 0), -1L);
        Check.due("ANYS", x.size(0, 4), 2);
        Check.due("an ANY isn't empty", x.size(0, 2), 1);
        Check.due("an ANY is no NUMBER", x.size(0, 3), 0);
    }

    private static void number(String cell, int due) {
        TableWays x = new TableWays();
        Check.table(x, 0, cell);
        Check.due("NUMBERS in " + cell, x.size(0, 3), due);
        Check.table(x, 1, "x," + cell);
        Check.due("SUM of " + cell, x.step(1, 11, 0, 1), due == 1 ? 1 : TableWays.NONE);
    }

    private static void numbers() {
        Check.says("Term I", "A NUMBER is a cell of 1 .. 6 digits");
        number("", 0);
        number("123456", 1);
        number("1234567", 0);
        number("999999", 1);
        number("000000", 1);
        number("0000000", 0);
        number("?", 0);
        for (int b = '0'; b <= '9'; b++) {
            number("" + (char) b, 1);
        }
        // what stands next to the digits, and each place of a text
        for (char c : new char[] {'/', ':', '-', '.', 'a', 'z'}) {
            number("" + c, 0);
            number(c + "1", 0);
            number("1" + c, 0);
            number("12" + c + "456", 0);
        }
    }

    private static void tapeHas1000() {
        Check.says("Term I", "THE TAPE has at most 1000 bytes");
        TableWays x = new TableWays();
        StringBuilder s = new StringBuilder();
        for (int i = 0; i < 50; i++) {
            s.append("                    ");
        }
        s.replace(994, 1000, "head ;");
        Check.tell(x, s.toString());
        Check.due("bytes", x.count(0), 1000);
        Check.due("one more feed", x.feed(0, 0, 0, 0, 0), TableWays.FULL);
        Check.due("a way of 1000 bytes", x.way(0), 1);
        Check.due("a way of 1000 bytes", Check.readWay(x, 0), "13.0.0");
    }

    private static void readingEmpties() {
        Check.says("Term I", "each call that reads it empties it");
        String[] texts = {"", "a,b", "A", "turn;", "turn"};
        for (String text : texts) {
            for (int i : new int[] {0, 7, -1, 8}) {
                TableWays x = new TableWays();
                Check.tell(x, text);
                x.table(i);
                Check.due("table(" + i + ") of " + text + " leaves", x.count(0), 0);
                Check.due("end(1) behind it", x.end(1), TableWays.NONE);
                Check.due("feed behind it", x.feed(0, 0, 0, 0, 0), 20);
                x.end(0);
                Check.tell(x, text);
                x.way(i);
                Check.due("way(" + i + ") of " + text + " leaves", x.count(0), 0);
                Check.due("feed behind it", x.feed(0, 0, 0, 0, 0), 20);
            }
        }
    }

    private static void otherCallsLeaveTheTape() {
        Check.says("Term I", "each call that reads it");
        Check.Call[] calls = {
            x -> x.fault(0), x -> x.size(0, 0), x -> x.cell(0, 0, 0), x -> x.copy(0, 1), x -> x.fits(0, 1),
            x -> x.step(0, 1, 0, 0), x -> x.walk(0, 0, 1), x -> x.steps(0), x -> x.stepAt(0, 0, 0), x -> x.chain(0, 0, 0),
            x -> x.find(0, 0, -1, -1, 0), x -> x.found(0), x -> x.take(0, 0), x -> x.part(0, 1, 1, 1, 0), x -> x.count(0),
        };
        for (int i = 0; i < calls.length; i++) {
            TableWays x = Check.furnished();
            calls[i].on(x);
            Check.due("the tape behind call " + i, x.count(0), 3);
            x.table(6);
            Check.due("the tape behind call " + i, Check.read(x, 6), "a,b");
        }
    }

    private static void text() {
        Check.says("Term I", "rows with ; between, each of cells with , between");
        String[] texts = {"", ",", ";", ",;,", "a,;,b", ";;a", ",,c", "a;;", "a,b;c,d"};
        int[] rows = {1, 1, 2, 2, 2, 3, 1, 3, 2};
        int[] columns = {1, 2, 1, 2, 2, 1, 3, 1, 2};
        for (int i = 0; i < texts.length; i++) {
            TableWays x = new TableWays();
            Check.due("rows of " + texts[i], Check.table(x, 0, texts[i]), rows[i]);
            Check.due("columns of " + texts[i], x.size(0, 1), columns[i]);
            Check.due("cells of " + texts[i], Check.read(x, 0), texts[i]);
        }
    }

    public static void main(String[] args) {
        shelf();
        rowsAndColumns();
        cellsOfBytes();
        whichBytes();
        marks();
        any();
        numbers();
        tapeHas1000();
        readingEmpties();
        otherCallsLeaveTheTape();
        text();
        Check.end();
    }
}
