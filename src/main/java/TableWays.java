import java.util.Arrays;

/** A finder of ways between small tables; the document's promises say what each call answers. */
public final class TableWays {
    public static final int NONE = -1;
    public static final int RANGE = -2;
    public static final int FULL = -3;

    private static final int SHELF = 8;
    private static final int MOST_TAPE = 1000;
    private static final int BYTES_OF_A_FEED = 20;
    private static final int MOST_TRIED = 1000;
    private static final int STOPPED = -10;
    private static final long NO_CELL = -2L;
    private static final int LISTED_TEXTS = 6;
    /** The texts of LISTED tables: empty, a, b, a-b, 1, 2. */
    private static final long[] LISTED = {0L, 0x61L, 0x62L, 0x612d62L, 0x31L, 0x32L};

    private final Table[] tables = new Table[SHELF];
    private final Way[] ways = new Way[SHELF];
    private final byte[] tape = new byte[MOST_TAPE];
    private int taped = 0;
    private int faultKind = 0;
    private int faultPlace = NONE;
    private final TableReader tableReader = new TableReader();
    private final WayReader wayReader = new WayReader();
    private final Stepper stepper = new Stepper();
    private final Walker walker = new Walker(stepper);
    private final Walker otherWalker = new Walker(stepper);
    private final Table spare = new Table();
    private final Way spareWay = new Way();
    private final Search search = new Search(stepper);

    public TableWays() {
        for (int i = 0; i < SHELF; i++) {
            tables[i] = new Table();
            ways[i] = new Way();
        }
    }

    // ---- texts

    public int feed(int a, int b, int c, int d, int e) {
        if (taped > MOST_TAPE - BYTES_OF_A_FEED) {
            return FULL;
        }
        tapeInt(a);
        tapeInt(b);
        tapeInt(c);
        tapeInt(d);
        tapeInt(e);
        return taped;
    }

    public int end(int n) {
        if (n < 0 || n > taped) {
            return NONE;
        }
        taped = n;
        return n;
    }

    public int table(int t) {
        int bytes = emptyTape();
        if (!onShelf(t)) {
            return RANGE;
        }
        tableReader.read(tape, bytes);
        faultKind = tableReader.kind;
        faultPlace = tableReader.place;
        if (faultKind != 0) {
            return NONE;
        }
        tables[t].become(tableReader.made);
        return tables[t].rows;
    }

    public int way(int w) {
        int bytes = emptyTape();
        if (!onShelf(w)) {
            return RANGE;
        }
        wayReader.read(tape, bytes);
        faultKind = wayReader.kind;
        faultPlace = wayReader.place;
        if (faultKind != 0) {
            return NONE;
        }
        ways[w].become(wayReader.made);
        return ways[w].length;
    }

    public int fault(int what) {
        if (what == 0) {
            return faultKind;
        }
        return what == 1 ? faultPlace : NONE;
    }

    // ---- tables

    public int size(int t, int what) {
        if (!onShelf(t)) {
            return NONE;
        }
        switch (what) {
            case 0:
                return tables[t].rows;
            case 1:
                return tables[t].columns;
            case 2:
                return tables[t].empties();
            case 3:
                return tables[t].numbers();
            case 4:
                return tables[t].anys();
            default:
                return NONE;
        }
    }

    public long cell(int t, int r, int c) {
        if (!onShelf(t) || !tables[t].has(r, c)) {
            return NO_CELL;
        }
        return tables[t].at(r, c);
    }

    public int copy(int t, int to) {
        if (!onShelf(t) || !onShelf(to)) {
            return RANGE;
        }
        tables[to].become(tables[t]);
        return tables[to].rows;
    }

    public int fits(int t, int u) {
        if (!onShelf(t) || !onShelf(u)) {
            return RANGE;
        }
        return tables[t].isLike(tables[u]) ? 1 : 0;
    }

    public int step(int t, int step, int a, int b) {
        if (!onShelf(t) || step < Stepper.TURN || step > Stepper.SWAP) {
            return RANGE;
        }
        if (!stepper.make(tables[t], spare, step, a, b)) {
            return NONE;
        }
        tables[t].become(spare);
        return tables[t].rows;
    }

    // ---- ways

    public int walk(int w, int t, int to) {
        if (!onShelf(w) || !onShelf(t) || !onShelf(to)) {
            return RANGE;
        }
        int stop = walker.go(ways[w], tables[t]);
        if (stop != NONE) {
            return STOPPED - stop;
        }
        tables[to].become(walker.now);
        return tables[to].rows;
    }

    public int steps(int w) {
        return onShelf(w) ? ways[w].length : RANGE;
    }

    public int stepAt(int w, int i, int what) {
        if (!onShelf(w) || i < 0 || i >= ways[w].length) {
            return NONE;
        }
        int code = ways[w].codeAt(i);
        switch (what) {
            case 0:
                return Code.number(code);
            case 1:
                return Code.a(code);
            case 2:
                return Code.b(code);
            default:
                return NONE;
        }
    }

    public int chain(int w, int v, int to) {
        if (!onShelf(w) || !onShelf(v) || !onShelf(to)) {
            return RANGE;
        }
        if (ways[w].length + ways[v].length > Way.MOST) {
            return FULL;
        }
        // built aside, as "to" may be w or v itself
        spareWay.become(ways[w]);
        spareWay.addAll(ways[v]);
        ways[to].become(spareWay);
        return ways[to].length;
    }

    // ---- search

    public int find(int t, int wish, int u, int v, int most) {
        if (!onShelf(t) || !onShelf(wish) || most < 0 || most > Search.MOST_STEPS) {
            return RANGE;
        }
        if (u == NONE && v == NONE) {
            return search.seek(tables[t], tables[wish], null, null, most);
        }
        if (!onShelf(u) || !onShelf(v)) {
            return RANGE;
        }
        return search.seek(tables[t], tables[wish], tables[u], tables[v], most);
    }

    public int found(int what) {
        switch (what) {
            case 0:
                return search.wayCount;
            case 1:
                return search.stateCount;
            case 2:
                return search.ends;
            default:
                return NONE;
        }
    }

    public int take(int i, int w) {
        if (!onShelf(w)) {
            return RANGE;
        }
        if (i < 0 || i >= search.told.listed) {
            return NONE;
        }
        search.told.write(i, ways[w]);
        return ways[w].length;
    }

    public int part(int w, int v, int c, int r, int t) {
        if (!onShelf(w) || !onShelf(v) || !onShelf(t)) {
            return RANGE;
        }
        if (c < 1 || c > 3 || r < 1 || r > 2) {
            return RANGE;
        }
        int tried = 0;
        for (int rows = 1; rows <= r; rows++) {
            int all = listedTables(rows * c);
            for (int i = 0; i < all; i++) {
                if (tried == MOST_TRIED) {
                    return FULL;
                }
                tried++;
                writeListed(rows, c, i);
                if (partOnSpare(ways[w], ways[v])) {
                    tables[t].become(spare);
                    return tried;
                }
            }
        }
        return NONE;
    }

    public int count(int what) {
        if (what == 0) {
            return taped;
        }
        return what == 1 ? stepsOfAllWays() : NONE;
    }

    // ---- helpers of the calls

    private static boolean onShelf(int i) {
        return i >= 0 && i < SHELF;
    }

    private void tapeInt(int four) {
        for (int shift = 24; shift >= 0 && taped < MOST_TAPE; shift -= 8) {
            tape[taped] = (byte) (four >> shift);
            taped++;
        }
    }

    /** How many bytes there are to read; they are gone ahead of RANGE too, as such a call reads as well. */
    private int emptyTape() {
        int bytes = taped;
        taped = 0;
        return bytes;
    }

    private int stepsOfAllWays() {
        int sum = 0;
        for (int w = 0; w < SHELF; w++) {
            sum += ways[w].length;
        }
        return sum;
    }

    private static int listedTables(int cells) {
        int all = 1;
        for (int i = 0; i < cells; i++) {
            all *= LISTED_TEXTS;
        }
        return all;
    }

    /** The i-th LISTED table of so many rows: its cells are the digits of i, the last cell the lowest. */
    private void writeListed(int rows, int columns, int i) {
        spare.shape(rows, columns);
        int rest = i;
        for (int r = rows - 1; r >= 0; r--) {
            for (int c = columns - 1; c >= 0; c--) {
                spare.put(r, c, LISTED[rest % LISTED_TEXTS]);
                rest /= LISTED_TEXTS;
            }
        }
    }

    private boolean partOnSpare(Way w, Way v) {
        boolean stopped = walker.go(w, spare) != NONE;
        boolean otherStopped = otherWalker.go(v, spare) != NONE;
        if (stopped || otherStopped) {
            return stopped != otherStopped;
        }
        return !walker.now.isSame(otherWalker.now);
    }

    /**
     * Cells are longs, as cell() tells them: their bytes to the base 256, the first one highest. No byte
     * of a cell is 0, so the number tells the length too, and 0 is the empty text.
     */
    private static final class Text {
        static final long EMPTY = 0L;
        static final long ANY = -1L;
        static final int MOST_BYTES = 7;
        static final int MOST_DIGITS = 6;
        static final int MARKS = 4;
        private static final int[] MARK_BYTES = {'-', ':', '/', '.'};

        private Text() {
        }

        static int lengthOf(long text) {
            int length = 0;
            for (long rest = text; rest != 0L && length < MOST_BYTES; rest >>>= 8) {
                length++;
            }
            return length;
        }

        static boolean isDigit(int x) {
            return x >= '0' && x <= '9';
        }

        static boolean isLetter(int x) {
            return x >= 'a' && x <= 'z';
        }

        /** Which MARK a byte is, NONE if it is none. */
        static int markOf(int x) {
            for (int mark = 0; mark < MARKS; mark++) {
                if (MARK_BYTES[mark] == x) {
                    return mark;
                }
            }
            return NONE;
        }

        static int byteOfMark(int mark) {
            return mark >= 0 && mark < MARKS ? MARK_BYTES[mark] : 0;
        }

        /** How many bytes are behind the text's first MARK, NONE without one. */
        static int behindMark(long text, int mark) {
            int wanted = byteOfMark(mark);
            for (int behind = lengthOf(text) - 1; behind >= 0; behind--) {
                if (((text >>> (8 * behind)) & 255L) == wanted) {
                    return behind;
                }
            }
            return NONE;
        }

        static boolean isNumber(long text) {
            int length = lengthOf(text);
            if (length < 1 || length > MOST_DIGITS) {
                return false;
            }
            for (int i = 0; i < length; i++) {
                if (!isDigit((int) (text >>> (8 * i)) & 255)) {
                    return false;
                }
            }
            return true;
        }

        static int valueOf(long number) {
            int value = 0;
            for (int i = lengthOf(number) - 1; i >= 0; i--) {
                value = 10 * value + ((int) (number >>> (8 * i)) & 255) - '0';
            }
            return value;
        }

        static long ofValue(int value) {
            long text = '0' + value % 10;
            int rest = value / 10;
            for (int i = 1; i < MOST_DIGITS && rest != 0; i++) {
                text |= (long) ('0' + rest % 10) << (8 * i);
                rest /= 10;
            }
            return text;
        }

        /** Moved up to seven bytes, texts stand in their order as numbers do. */
        static long sortKey(long text) {
            return text << (8 * (MOST_BYTES - lengthOf(text)));
        }
    }

    /** A table, its cells row by row without gaps, so that tables of one form can be compared in a row. */
    private static final class Table {
        static final int MOST_ROWS = 12;
        static final int MOST_COLUMNS = 6;
        static final int MOST_CELLS = MOST_ROWS * MOST_COLUMNS;

        final long[] cells = new long[MOST_CELLS];
        int rows = 1;
        int columns = 1;

        /** Takes the form if a table may have it; the cells are the caller's to write. */
        boolean shape(int newRows, int newColumns) {
            if (newRows < 1 || newRows > MOST_ROWS || newColumns < 1 || newColumns > MOST_COLUMNS) {
                return false;
            }
            rows = newRows;
            columns = newColumns;
            return true;
        }

        boolean has(int r, int c) {
            return r >= 0 && r < rows && c >= 0 && c < columns;
        }

        long at(int r, int c) {
            int i = r * columns + c;
            return i >= 0 && i < MOST_CELLS ? cells[i] : Text.EMPTY;
        }

        void put(int r, int c, long text) {
            int i = r * columns + c;
            if (i >= 0 && i < MOST_CELLS) {
                cells[i] = text;
            }
        }

        void become(Table other) {
            rows = other.rows;
            columns = other.columns;
            System.arraycopy(other.cells, 0, cells, 0, rows * columns);
        }

        /** The first n cells of a row of another table become those of row r. */
        void putRow(int r, Table from, int fromRow, int n) {
            for (int c = 0; c < n; c++) {
                put(r, c, from.at(fromRow, c));
            }
        }

        boolean isSame(Table other) {
            if (rows != other.rows || columns != other.columns) {
                return false;
            }
            for (int i = 0; i < rows * columns; i++) {
                if (cells[i] != other.cells[i]) {
                    return false;
                }
            }
            return true;
        }

        /** Whether the two FIT. */
        boolean isLike(Table other) {
            if (rows != other.rows || columns != other.columns) {
                return false;
            }
            for (int i = 0; i < rows * columns; i++) {
                long one = cells[i];
                long two = other.cells[i];
                if (one != two && one != Text.ANY && two != Text.ANY) {
                    return false;
                }
            }
            return true;
        }

        /** Whether two rows are the same in the columns from .. to - 1. */
        boolean rowsAgree(int r, int q, int from, int to) {
            // looked at here and not in has(), as calls go no deeper than eight
            if (r < 0 || r >= rows || q < 0 || q >= rows || from < 0 || to > columns) {
                return false;
            }
            for (int c = from; c < to; c++) {
                if (cells[r * columns + c] != cells[q * columns + c]) {
                    return false;
                }
            }
            return true;
        }

        int empties() {
            return cellsThatAre(Text.EMPTY);
        }

        int anys() {
            return cellsThatAre(Text.ANY);
        }

        int numbers() {
            int n = 0;
            for (int i = 0; i < rows * columns; i++) {
                if (Text.isNumber(cells[i])) {
                    n++;
                }
            }
            return n;
        }

        private int cellsThatAre(long text) {
            int n = 0;
            for (int i = 0; i < rows * columns; i++) {
                if (cells[i] == text) {
                    n++;
                }
            }
            return n;
        }
    }

    /** A STEP with its numbers in one int of ten bits. */
    private static final class Code {
        static final int BITS = 10;
        static final int MASK = 1023;

        private Code() {
        }

        static int of(int number, int a, int b) {
            return number << 6 | a << 3 | b;
        }

        static int number(int code) {
            return code >> 6;
        }

        static int a(int code) {
            return code >> 3 & 7;
        }

        static int b(int code) {
            return code & 7;
        }
    }

    private static final class Way {
        static final int MOST = 12;

        private final int[] codes = new int[MOST];
        int length = 0;

        int codeAt(int i) {
            return i >= 0 && i < length ? codes[i] : 0;
        }

        void clear() {
            length = 0;
        }

        /** Adds a STEP if there is room for it. */
        boolean add(int code) {
            if (length >= MOST) {
                return false;
            }
            codes[length] = code;
            length++;
            return true;
        }

        void addAll(Way other) {
            int n = other.length;
            for (int i = 0; i < n; i++) {
                add(other.codeAt(i));
            }
        }

        void become(Way other) {
            System.arraycopy(other.codes, 0, codes, 0, MOST);
            length = other.length;
        }
    }

    /** Does STEPS: from one table into another, so that a STEP that CAN'T BE leaves its table as it was. */
    private static final class Stepper {
        static final int TURN = 1;
        static final int DROP = 2;
        static final int SPLIT = 3;
        static final int FILL = 4;
        static final int JOIN = 5;
        static final int FOLD = 6;
        static final int UNFOLD = 7;
        static final int SORT = 8;
        static final int SINGLE = 9;
        static final int COUNT = 10;
        static final int SUM = 11;
        static final int KEEP = 12;
        static final int HEAD = 13;
        static final int SWAP = 14;

        /** What numbers a STEP is told with. */
        static final int BARE = 0;
        static final int WITH_N = 1;
        static final int WITH_N_MARK = 2;
        static final int WITH_N_N = 3;
        private static final int[] FORMS = {
            BARE, BARE, WITH_N, WITH_N_MARK, WITH_N, WITH_N_MARK, WITH_N, BARE,
            WITH_N, BARE, WITH_N, WITH_N_N, WITH_N, BARE, WITH_N,
        };
        private static final int SUM_BOUND = 1000000;

        private final int[] groupOf = new int[Table.MOST_ROWS];
        private final int[] firstOf = new int[Table.MOST_ROWS];
        private final int[] nameOf = new int[Table.MOST_ROWS];
        private final int[] firstOfName = new int[Table.MOST_ROWS];
        private final int[] amounts = new int[Table.MOST_ROWS];
        private final int[] order = new int[Table.MOST_ROWS];

        static int formOf(int number) {
            return number >= TURN && number <= SWAP ? FORMS[number] : BARE;
        }

        /** Does a STEP; answers whether it can be. */
        boolean make(Table in, Table out, int number, int a, int b) {
            return in.anys() == 0 && change(in, out, number, a, b);
        }

        /** Does a STEP on a table that is known to have no ANY. */
        boolean change(Table in, Table out, int number, int a, int b) {
            if (!numbersCanBe(in.columns, number, a, b)) {
                return false;
            }
            switch (number) {
                case TURN:
                    return turn(in, out);
                case DROP:
                    return drop(in, out, a);
                case SPLIT:
                    return split(in, out, a, b);
                case FILL:
                    return fill(in, out, a);
                case JOIN:
                    return join(in, out, a, b);
                case FOLD:
                    return fold(in, out, a);
                case UNFOLD:
                    return unfold(in, out);
                case SORT:
                    return sort(in, out, a);
                case SINGLE:
                    return single(in, out);
                case COUNT:
                    return tally(in, out, a);
                case SUM:
                    return sum(in, out, a, b);
                case KEEP:
                    return keep(in, out, a);
                case HEAD:
                    return head(in, out);
                case SWAP:
                    return swap(in, out, a);
                default:
                    return false;
            }
        }

        private static boolean numbersCanBe(int columns, int number, int a, int b) {
            switch (number) {
                case SPLIT:
                    return isWithin(a, 0, columns - 1) && isWithin(b, 0, Text.MARKS - 1);
                case JOIN:
                    return isWithin(a, 0, columns - 2) && isWithin(b, 0, Text.MARKS - 1);
                case SUM:
                    return isWithin(a, 0, columns - 1) && isWithin(b, 0, columns - 1) && a != b;
                case FOLD:
                    return isWithin(a, 1, columns - 1) && b == 0;
                case SWAP:
                    return isWithin(a, 0, columns - 2) && b == 0;
                default:
                    return isWithin(a, 0, formOf(number) == BARE ? 0 : columns - 1) && b == 0;
            }
        }

        private static boolean isWithin(int x, int least, int most) {
            return x >= least && x <= most;
        }

        private static boolean turn(Table in, Table out) {
            if (!out.shape(in.columns, in.rows)) {
                return false;
            }
            for (int r = 0; r < in.rows; r++) {
                for (int c = 0; c < in.columns; c++) {
                    out.put(c, r, in.at(r, c));
                }
            }
            return true;
        }

        private static boolean drop(Table in, Table out, int a) {
            if (!out.shape(in.rows, in.columns - 1)) {
                return false;
            }
            moveColumns(in, out, 0, a, 0);
            moveColumns(in, out, a + 1, in.columns, -1);
            return true;
        }

        /** The columns from .. to - 1 come into the other table, so many places further on. */
        private static void moveColumns(Table in, Table out, int from, int to, int further) {
            for (int r = 0; r < in.rows; r++) {
                for (int c = from; c < to; c++) {
                    out.put(r, c + further, in.at(r, c));
                }
            }
        }

        private static boolean split(Table in, Table out, int a, int mark) {
            if (!out.shape(in.rows, in.columns + 1)) {
                return false;
            }
            boolean some = false;
            for (int r = 0; r < in.rows; r++) {
                long text = in.at(r, a);
                int behind = Text.behindMark(text, mark);
                if (behind == NONE) {
                    out.put(r, a, text);
                    out.put(r, a + 1, Text.EMPTY);
                } else {
                    some = true;
                    out.put(r, a, text >>> (8 * (behind + 1)));
                    out.put(r, a + 1, text & ((1L << (8 * behind)) - 1L));
                }
            }
            moveColumns(in, out, 0, a, 0);
            moveColumns(in, out, a + 1, in.columns, 1);
            return some;
        }

        private static boolean fill(Table in, Table out, int a) {
            out.become(in);
            boolean some = false;
            for (int r = 1; r < in.rows; r++) {
                long above = out.at(r - 1, a);
                if (out.at(r, a) == Text.EMPTY && above != Text.EMPTY) {
                    out.put(r, a, above);
                    some = true;
                }
            }
            return some;
        }

        private static boolean join(Table in, Table out, int a, int mark) {
            if (!out.shape(in.rows, in.columns - 1)) {
                return false;
            }
            for (int r = 0; r < in.rows; r++) {
                long ahead = in.at(r, a);
                long behind = in.at(r, a + 1);
                int bytesBehind = Text.lengthOf(behind);
                if (Text.lengthOf(ahead) + 1 + bytesBehind > Text.MOST_BYTES) {
                    return false;
                }
                out.put(r, a, (ahead << 8 | Text.byteOfMark(mark)) << (8 * bytesBehind) | behind);
            }
            moveColumns(in, out, 0, a, 0);
            moveColumns(in, out, a + 2, in.columns, -1);
            return true;
        }

        private static boolean fold(Table in, Table out, int a) {
            // without other rows than the names the form has no row and is refused too
            if (!out.shape((in.rows - 1) * (in.columns - a), a + 2)) {
                return false;
            }
            int to = 0;
            for (int r = 1; r < in.rows; r++) {
                for (int c = a; c < in.columns; c++) {
                    out.putRow(to, in, r, a);
                    out.put(to, a, in.at(0, c));
                    out.put(to, a + 1, in.at(r, c));
                    to++;
                }
            }
            return true;
        }

        private boolean unfold(Table in, Table out) {
            int ahead = in.columns - 2;
            if (ahead < 1) {
                return false;
            }
            int beginnings = group(in, 0, ahead, groupOf, firstOf);
            int names = group(in, ahead, ahead + 1, nameOf, firstOfName);
            if (hasNameTwice(in.rows) || !out.shape(1 + beginnings, ahead + names)) {
                return false;
            }
            Arrays.fill(out.cells, Text.EMPTY);
            for (int n = 0; n < names; n++) {
                out.put(0, ahead + n, in.at(firstOfName[n], ahead));
            }
            for (int g = 0; g < beginnings; g++) {
                out.putRow(1 + g, in, firstOf[g], ahead);
            }
            for (int r = 0; r < in.rows; r++) {
                out.put(1 + groupOf[r], ahead + nameOf[r], in.at(r, ahead + 1));
            }
            return true;
        }

        private boolean hasNameTwice(int rows) {
            for (int r = 1; r < rows; r++) {
                for (int q = 0; q < r; q++) {
                    if (groupOf[r] == groupOf[q] && nameOf[r] == nameOf[q]) {
                        return true;
                    }
                }
            }
            return false;
        }

        /** Groups rows that are the same in the columns from .. to - 1, as they come first: how many. */
        private static int group(Table in, int from, int to, int[] groups, int[] firsts) {
            int n = 0;
            for (int r = 0; r < in.rows; r++) {
                int g = 0;
                for (; g < n; g++) {
                    if (in.rowsAgree(r, firsts[g], from, to)) {
                        break;
                    }
                }
                if (g == n) {
                    firsts[n] = r;
                    n++;
                }
                groups[r] = g;
            }
            return n;
        }

        private boolean sort(Table in, Table out, int a) {
            boolean moves = false;
            for (int r = 0; r < in.rows; r++) {
                long key = Text.sortKey(in.at(r, a));
                int place = r;
                for (; place > 0 && Text.sortKey(in.at(order[place - 1], a)) > key; place--) {
                    order[place] = order[place - 1];
                }
                order[place] = r;
                moves = moves || place < r;
            }
            if (!moves || !out.shape(in.rows, in.columns)) {
                return false;
            }
            for (int r = 0; r < in.rows; r++) {
                out.putRow(r, in, order[r], in.columns);
            }
            return true;
        }

        private boolean single(Table in, Table out) {
            int n = group(in, 0, in.columns, groupOf, firstOf);
            if (n == in.rows || !out.shape(n, in.columns)) {
                return false;
            }
            for (int g = 0; g < n; g++) {
                out.putRow(g, in, firstOf[g], in.columns);
            }
            return true;
        }

        private boolean tally(Table in, Table out, int a) {
            int n = group(in, a, a + 1, groupOf, firstOf);
            Arrays.fill(amounts, 0);
            for (int r = 0; r < in.rows; r++) {
                amounts[groupOf[r]]++;
            }
            return writeAmounts(in, out, a, n);
        }

        private boolean sum(Table in, Table out, int a, int b) {
            int n = group(in, a, a + 1, groupOf, firstOf);
            Arrays.fill(amounts, 0);
            for (int r = 0; r < in.rows; r++) {
                long number = in.at(r, b);
                if (!Text.isNumber(number)) {
                    return false;
                }
                amounts[groupOf[r]] += Text.valueOf(number);
            }
            return writeAmounts(in, out, a, n);
        }

        private boolean writeAmounts(Table in, Table out, int a, int groups) {
            if (!out.shape(groups, 2)) {
                return false;
            }
            for (int g = 0; g < groups; g++) {
                if (amounts[g] >= SUM_BOUND) {
                    return false;
                }
                out.put(g, 0, in.at(firstOf[g], a));
                out.put(g, 1, Text.ofValue(amounts[g]));
            }
            return true;
        }

        private boolean keep(Table in, Table out, int a) {
            int stay = 0;
            for (int r = 0; r < in.rows; r++) {
                if (in.at(r, a) != Text.EMPTY) {
                    order[stay] = r;
                    stay++;
                }
            }
            if (stay == in.rows || !out.shape(stay, in.columns)) {
                return false;
            }
            for (int r = 0; r < stay; r++) {
                out.putRow(r, in, order[r], in.columns);
            }
            return true;
        }

        private static boolean head(Table in, Table out) {
            if (!out.shape(in.rows - 1, in.columns)) {
                return false;
            }
            for (int r = 1; r < in.rows; r++) {
                out.putRow(r - 1, in, r, in.columns);
            }
            return true;
        }

        private static boolean swap(Table in, Table out, int a) {
            out.become(in);
            for (int r = 0; r < in.rows; r++) {
                out.put(r, a, in.at(r, a + 1));
                out.put(r, a + 1, in.at(r, a));
            }
            return true;
        }
    }

    /** Walks a WAY between two tables of its own, so that the table walked on stays as it is. */
    private static final class Walker {
        private final Stepper stepper;
        private Table next = new Table();
        /** What came of the latest WAY that was not stopped. */
        Table now = new Table();

        Walker(Stepper stepper) {
            this.stepper = stepper;
        }

        /** The first STEP that CAN'T BE, NONE when all were done. */
        int go(Way way, Table from) {
            // no STEP makes an ANY, so one look at the beginning is enough
            boolean hasAny = from.anys() > 0;
            now.become(from);
            for (int i = 0; i < way.length; i++) {
                int code = way.codeAt(i);
                if (hasAny || !stepper.change(now, next, Code.number(code), Code.a(code), Code.b(code))) {
                    return i;
                }
                Table made = next;
                next = now;
                now = made;
            }
            return NONE;
        }
    }

    /** Reads a table's text byte by byte. */
    private static final class TableReader {
        private static final int BYTE = 1;
        private static final int LONG_CELL = 2;
        private static final int COLUMNS = 3;
        private static final int ROOM = 4;

        final Table made = new Table();
        int kind = 0;
        int place = NONE;
        private int rows;
        private int column;
        private int columns;
        private int cellsRead;
        private int bytes;
        private long text;

        void read(byte[] tape, int n) {
            rows = 1;
            column = 1;
            columns = 0;
            cellsRead = 0;
            bytes = 0;
            text = Text.EMPTY;
            for (int i = 0; i < n && i < tape.length; i++) {
                kind = takeByte(tape[i] & 255);
                if (kind != 0) {
                    place = i;
                    return;
                }
            }
            kind = rowIsShort() ? COLUMNS : 0;
            place = kind == 0 ? NONE : n;
            if (kind == 0) {
                endCell();
                made.shape(rows, column);
            }
        }

        private int takeByte(int x) {
            if (x == ',') {
                return takeComma();
            }
            if (x == ';') {
                return takeSemicolon();
            }
            return takeCellByte(x);
        }

        private boolean rowIsShort() {
            return rows > 1 && column < columns;
        }

        private int takeComma() {
            if (rows > 1 && column == columns) {
                return COLUMNS;
            }
            if (column == Table.MOST_COLUMNS) {
                return ROOM;
            }
            endCell();
            column++;
            return 0;
        }

        private int takeSemicolon() {
            if (rowIsShort()) {
                return COLUMNS;
            }
            if (rows == Table.MOST_ROWS) {
                return ROOM;
            }
            endCell();
            columns = column;
            column = 1;
            rows++;
            return 0;
        }

        private int takeCellByte(int x) {
            if (text == Text.ANY || (x == '?' && bytes > 0)) {
                return BYTE;
            }
            if (x == '?') {
                text = Text.ANY;
                return 0;
            }
            if (!Text.isLetter(x) && !Text.isDigit(x) && Text.markOf(x) == NONE) {
                return BYTE;
            }
            if (bytes == Text.MOST_BYTES) {
                return LONG_CELL;
            }
            text = text << 8 | x;
            bytes++;
            return 0;
        }

        private void endCell() {
            if (cellsRead < Table.MOST_CELLS) {
                made.cells[cellsRead] = text;
                cellsRead++;
            }
            text = Text.EMPTY;
            bytes = 0;
        }
    }

    /** Reads a WAY's text TOKEN by TOKEN; what is due next says which TOKENS a way goes on with. */
    private static final class WayReader {
        private static final int SYNTAX = 1;
        private static final int NUMBER = 2;
        private static final int ROOM = 3;
        private static final int DUE_STEP = 0;
        private static final int DUE_N = 1;
        private static final int DUE_SECOND_N = 2;
        private static final int DUE_MARK = 3;
        private static final int DUE_SEMICOLON = 4;
        private static final int DUE_TIMES = 5;
        private static final int DUE_BRACE = 6;
        private static final int REPEAT = 15;
        private static final int MOST_N = 5;
        private static final int MOST_TIMES = 6;
        private static final int MOST_DEPTH = 3;

        final Way made = new Way();
        int kind = 0;
        int place = NONE;
        private int due;
        private int number;
        private int a;
        private int b;
        private int often;
        private int depth;
        private final int[] bodyFrom = new int[MOST_DEPTH];
        private final int[] times = new int[MOST_DEPTH];

        void read(byte[] tape, int n) {
            made.clear();
            due = DUE_STEP;
            depth = 0;
            // the last byte of the latest TOKEN: the letters behind a WORD's first are read with it
            int last = NONE;
            for (int i = 0; i < n && i < tape.length; i++) {
                int x = tape[i] & 255;
                if (i <= last || x == ' ' || x == '\n') {
                    continue;
                }
                last = Text.isLetter(x) ? lastLetter(tape, n, i) : i;
                kind = Text.isLetter(x) ? takeWord(wordIn(tape, i, last)) : takeSign(x);
                if (kind != 0) {
                    place = i;
                    return;
                }
            }
            kind = due != DUE_STEP || depth > 0 ? SYNTAX : 0;
            place = kind == 0 ? NONE : n;
        }

        private static int lastLetter(byte[] tape, int n, int first) {
            int last = first;
            for (int i = first + 1; i < n && i < tape.length && Text.isLetter(tape[i] & 255); i++) {
                last = i;
            }
            return last;
        }

        /** The number of the STEP with this WORD, REPEAT, or NONE of another WORD. */
        private static int wordIn(byte[] tape, int first, int last) {
            for (int i = Stepper.TURN; i <= REPEAT; i++) {
                if (spells(wordOf(i), tape, first, last)) {
                    return i;
                }
            }
            return NONE;
        }

        private static boolean spells(String word, byte[] tape, int first, int last) {
            if (word.length() != last - first + 1) {
                return false;
            }
            for (int i = 0; i < word.length(); i++) {
                if (word.charAt(i) != tape[first + i]) {
                    return false;
                }
            }
            return true;
        }

        private static String wordOf(int number) {
            switch (number) {
                case Stepper.TURN:
                    return "turn";
                case Stepper.DROP:
                    return "drop";
                case Stepper.SPLIT:
                    return "split";
                case Stepper.FILL:
                    return "fill";
                case Stepper.JOIN:
                    return "join";
                case Stepper.FOLD:
                    return "fold";
                case Stepper.UNFOLD:
                    return "unfold";
                case Stepper.SORT:
                    return "sort";
                case Stepper.SINGLE:
                    return "single";
                case Stepper.COUNT:
                    return "count";
                case Stepper.SUM:
                    return "sum";
                case Stepper.KEEP:
                    return "keep";
                case Stepper.HEAD:
                    return "head";
                case Stepper.SWAP:
                    return "swap";
                default:
                    return "repeat";
            }
        }

        private int takeWord(int word) {
            if (due != DUE_STEP || word == NONE) {
                return SYNTAX;
            }
            if (word == REPEAT) {
                due = DUE_TIMES;
                return 0;
            }
            if (made.length == Way.MOST) {
                return ROOM;
            }
            number = word;
            a = 0;
            b = 0;
            due = Stepper.formOf(word) == Stepper.BARE ? DUE_SEMICOLON : DUE_N;
            return 0;
        }

        private int takeSign(int x) {
            switch (due) {
                case DUE_STEP:
                    return x == '}' && depth > 0 ? closeRepeat() : SYNTAX;
                case DUE_N:
                case DUE_SECOND_N:
                    return takeColumn(x);
                case DUE_MARK:
                    return takeMark(x);
                case DUE_SEMICOLON:
                    return x == ';' ? endStep() : SYNTAX;
                case DUE_TIMES:
                    return takeTimes(x);
                default:
                    return x == '{' ? openRepeat() : SYNTAX;
            }
        }

        private int takeColumn(int x) {
            if (!Text.isDigit(x)) {
                return SYNTAX;
            }
            int n = x - '0';
            if (n > MOST_N) {
                return NUMBER;
            }
            if (due == DUE_SECOND_N) {
                b = n;
                due = DUE_SEMICOLON;
                return 0;
            }
            a = n;
            due = dueBehindFirstN();
            return 0;
        }

        private int dueBehindFirstN() {
            switch (Stepper.formOf(number)) {
                case Stepper.WITH_N_MARK:
                    return DUE_MARK;
                case Stepper.WITH_N_N:
                    return DUE_SECOND_N;
                default:
                    return DUE_SEMICOLON;
            }
        }

        private int takeMark(int x) {
            int mark = Text.markOf(x);
            if (mark == NONE) {
                return SYNTAX;
            }
            b = mark;
            due = DUE_SEMICOLON;
            return 0;
        }

        private int endStep() {
            made.add(Code.of(number, a, b));
            due = DUE_STEP;
            return 0;
        }

        private int takeTimes(int x) {
            if (!Text.isDigit(x)) {
                return SYNTAX;
            }
            often = x - '0';
            if (often < 1 || often > MOST_TIMES) {
                return NUMBER;
            }
            due = DUE_BRACE;
            return 0;
        }

        private int openRepeat() {
            if (depth == MOST_DEPTH) {
                return ROOM;
            }
            bodyFrom[depth] = made.length;
            times[depth] = often;
            depth++;
            due = DUE_STEP;
            return 0;
        }

        private int closeRepeat() {
            depth--;
            int from = bodyFrom[depth];
            int body = made.length - from;
            if (from + body * times[depth] > Way.MOST) {
                return ROOM;
            }
            for (int i = body; i < body * times[depth]; i++) {
                made.add(made.codeAt(from + i - body));
            }
            return 0;
        }
    }

    /** A STATE of the search: two tables in one row of cells, and how it was come to. */
    private static final class State {
        private static final int FIRST_CELLS = 16;
        private static final int MOST_CELLS = 2 * Table.MOST_CELLS;

        private long[] cells = new long[FIRST_CELLS];
        private int rows;
        private int columns;
        private int otherRows;
        private int otherColumns;
        int mix;
        /** How many rows of STEPS lead here, at most Search.MOST_WAYS. */
        int ways;
        int edgesFrom;
        int edgesTo;
        boolean leadsToEnd;

        void hold(Table one, Table two, int newMix) {
            rows = one.rows;
            columns = one.columns;
            otherRows = two.rows;
            otherColumns = two.columns;
            int n = rows * columns;
            int m = otherRows * otherColumns;
            if (cells.length < n + m) {
                // grows at least twofold, as states are used again by later searches
                cells = new long[Math.min(MOST_CELLS, Math.max(n + m, 2 * cells.length))];
            }
            System.arraycopy(one.cells, 0, cells, 0, n);
            System.arraycopy(two.cells, 0, cells, n, m);
            mix = newMix;
            ways = 0;
            edgesFrom = 0;
            edgesTo = 0;
            leadsToEnd = false;
        }

        void lay(Table one, Table two) {
            one.shape(rows, columns);
            two.shape(otherRows, otherColumns);
            int n = rows * columns;
            System.arraycopy(cells, 0, one.cells, 0, n);
            System.arraycopy(cells, n, two.cells, 0, otherRows * otherColumns);
        }

        boolean holds(Table one, Table two) {
            if (rows != one.rows || columns != one.columns) {
                return false;
            }
            if (otherRows != two.rows || otherColumns != two.columns) {
                return false;
            }
            int n = rows * columns;
            return isAt(one, 0, n) && isAt(two, n, otherRows * otherColumns);
        }

        private boolean isAt(Table table, int from, int n) {
            for (int i = 0; i < n; i++) {
                if (cells[from + i] != table.cells[i]) {
                    return false;
                }
            }
            return true;
        }
    }

    /**
     * The shortest WAYS in order, the first 60 of them. Each is one int, ten bits for each STEP. They
     * grow STEP by STEP: as only STATES are followed that lead to an end, the first 60 beginnings hold
     * the first 60 WAYS.
     */
    private static final class Told {
        static final int MOST = 60;

        int listed = 0;
        private int length = 0;
        private int[] paths = new int[MOST];
        private int[] ends = new int[MOST];
        private int[] nextPaths = new int[MOST];
        private int[] nextEnds = new int[MOST];

        void clear() {
            listed = 0;
            length = 0;
        }

        /** One WAY without STEPS, at the first STATE. */
        void start() {
            listed = 1;
            length = 0;
            paths[0] = 0;
            ends[0] = 0;
        }

        /** Every beginning goes on by each STEP that leads to an end. */
        void grow(State[] states, int[] edges) {
            int n = 0;
            for (int i = 0; i < listed; i++) {
                State state = states[ends[i]];
                for (int e = state.edgesFrom; e < state.edgesTo && n < MOST; e++) {
                    int to = edges[e] >> Code.BITS;
                    if (states[to].leadsToEnd) {
                        nextPaths[n] = paths[i] << Code.BITS | edges[e] & Code.MASK;
                        nextEnds[n] = to;
                        n++;
                    }
                }
            }
            listed = n;
            length++;
            takeNext();
        }

        private void takeNext() {
            int[] formerPaths = paths;
            paths = nextPaths;
            nextPaths = formerPaths;
            int[] formerEnds = ends;
            ends = nextEnds;
            nextEnds = formerEnds;
        }

        void write(int i, Way way) {
            way.clear();
            for (int s = length - 1; s >= 0; s--) {
                way.add(paths[i] >> (s * Code.BITS) & Code.MASK);
            }
        }
    }

    /**
     * The search, breadth first. A shortest WAY meets a new length at each STEP, so only edges to
     * STATES that are one STEP longer are kept.
     */
    private static final class Search {
        static final int MOST_STEPS = 3;
        static final int MOST_WAYS = 1000000;
        private static final int MOST_STATES = 1500;
        private static final int MOST_NUMBER = 5;
        /** A power of two, so that a mask finds the slot; far above MOST_STATES, so that one is free. */
        private static final int SLOTS = 4096;
        private static final int FIRST_EDGES = 1024;

        private final Stepper stepper;
        private final Table from = new Table();
        private final Table otherFrom = new Table();
        private final Table made = new Table();
        private final Table otherMade = new Table();
        private final Table wished = new Table();
        private final Table otherWished = new Table();
        private final Table blank = new Table();
        private boolean two = false;
        private final State[] states = new State[MOST_STATES];
        private final int[] slots = new int[SLOTS];
        private int[] edges = new int[FIRST_EDGES];
        private int edgeCount = 0;
        final Told told = new Told();
        int stateCount = 0;
        int ends = 0;
        int wayCount = 0;

        Search(Stepper stepper) {
            this.stepper = stepper;
        }

        /** Finds from t to the wish and, if they are there, from u to v: how many STEPS, NONE, FULL. */
        int seek(Table t, Table wish, Table u, Table v, int most) {
            begin(t, wish, u, v);
            if (ends > 0) {
                tellWays(0, 0);
                return 0;
            }
            int levelFrom = 0;
            for (int length = 1; length <= most; length++) {
                int levelTo = stateCount;
                for (int s = levelFrom; s < levelTo; s++) {
                    if (!expand(states[s], levelTo)) {
                        return FULL;
                    }
                }
                if (ends > 0) {
                    tellWays(length, levelTo);
                    return length;
                }
                levelFrom = levelTo;
            }
            return NONE;
        }

        private void begin(Table t, Table wish, Table u, Table v) {
            Arrays.fill(slots, 0);
            told.clear();
            stateCount = 0;
            edgeCount = 0;
            ends = 0;
            wayCount = 0;
            two = u != null && v != null;
            made.become(t);
            wished.become(wish);
            // without a second example an empty table stands for it, that no STEP changes
            otherMade.become(u != null ? u : blank);
            otherWished.become(v != null ? v : blank);
            int mix = mixOfMade();
            addState(slotOf(mix), mix);
            states[0].ways = 1;
        }

        /** Makes all STATES that are one STEP further; false when one more than there is room for came. */
        private boolean expand(State state, int levelTo) {
            state.lay(from, otherFrom);
            state.edgesFrom = edgeCount;
            state.edgesTo = edgeCount;
            if (from.anys() + otherFrom.anys() > 0) {
                return true;
            }
            for (int number = Stepper.TURN; number <= Stepper.SWAP; number++) {
                int mostA = mostA(number);
                int mostB = mostB(number);
                for (int a = 0; a <= mostA; a++) {
                    for (int b = 0; b <= mostB; b++) {
                        boolean can = stepper.change(from, made, number, a, b)
                            && (!two || stepper.change(otherFrom, otherMade, number, a, b));
                        if (can && !arrive(state, Code.of(number, a, b), levelTo)) {
                            return false;
                        }
                    }
                }
            }
            state.edgesTo = edgeCount;
            return true;
        }

        private static int mostA(int number) {
            return Stepper.formOf(number) == Stepper.BARE ? 0 : MOST_NUMBER;
        }

        private static int mostB(int number) {
            switch (Stepper.formOf(number)) {
                case Stepper.WITH_N_MARK:
                    return Text.MARKS - 1;
                case Stepper.WITH_N_N:
                    return MOST_NUMBER;
                default:
                    return 0;
            }
        }

        /** The made tables are a STATE, a new one or one that was there before. */
        private boolean arrive(State state, int code, int levelTo) {
            int mix = mixOfMade();
            int slot = slotOf(mix);
            if (slots[slot] == 0 && !addState(slot, mix)) {
                return false;
            }
            int to = slots[slot] - 1;
            if (to >= levelTo) {
                states[to].ways = Math.min(MOST_WAYS, states[to].ways + state.ways);
                addEdge(code, to);
            }
            return true;
        }

        private boolean addState(int slot, int mix) {
            if (stateCount >= MOST_STATES) {
                return false;
            }
            if (states[stateCount] == null) {
                states[stateCount] = new State();
            }
            State state = states[stateCount];
            state.hold(made, otherMade, mix);
            stateCount++;
            slots[slot] = stateCount;
            if (made.isLike(wished) && otherMade.isLike(otherWished)) {
                state.leadsToEnd = true;
                ends++;
            }
            return true;
        }

        private void addEdge(int code, int to) {
            if (edgeCount >= edges.length) {
                edges = Arrays.copyOf(edges, 2 * edges.length);
            }
            edges[edgeCount] = to << Code.BITS | code;
            edgeCount++;
        }

        /** The slot of the made tables' STATE (its number and 1), or the free one where it would be. */
        private int slotOf(int mix) {
            int slot = mix & (SLOTS - 1);
            for (int i = 0; i < SLOTS && slots[slot] != 0; i++) {
                State state = states[slots[slot] - 1];
                if (state.mix == mix && state.holds(made, otherMade)) {
                    return slot;
                }
                slot = (slot + 1) & (SLOTS - 1);
            }
            return slot;
        }

        private int mixOfMade() {
            int mix = mixOf(otherMade, mixOf(made, 1));
            return mix ^ mix >>> 15;
        }

        private static int mixOf(Table table, int before) {
            int mix = 31 * (31 * before + table.rows) + table.columns;
            for (int i = 0; i < table.rows * table.columns; i++) {
                long text = table.cells[i];
                mix = (mix ^ (int) (text ^ text >>> 32)) * 0x01000193;
                mix ^= mix >>> 13;
            }
            return mix;
        }

        /** The ends are those of the last level; lastFrom is the first STATE of it. */
        private void tellWays(int length, int lastFrom) {
            for (int s = lastFrom; s < stateCount; s++) {
                if (states[s].leadsToEnd) {
                    wayCount = Math.min(MOST_WAYS, wayCount + states[s].ways);
                }
            }
            for (int s = lastFrom - 1; s >= 0; s--) {
                states[s].leadsToEnd = hasEdgeToEnd(states[s]);
            }
            told.start();
            for (int i = 0; i < length; i++) {
                told.grow(states, edges);
            }
        }

        private boolean hasEdgeToEnd(State state) {
            for (int e = state.edgesFrom; e < state.edgesTo; e++) {
                if (states[edges[e] >> Code.BITS].leadsToEnd) {
                    return true;
                }
            }
            return false;
        }
    }
}
