/**
 * Promises 2 to 6 and 20 in runs of any calls: the class beside a tape that is a String and beside the
 * model's readings of it.
 */
public final class TapeTest {
    private static final String[] TEXTS = {
        "a,b;c,d", "a;b;c", "?", "a,b;c", "abcdefgh", "A", "a,b,c,d,e,f,g", "turn;", "drop 1; head;", "drop 6;",
        "repeat 6 {turn;}", "repeat 6 {turn; head; swap 0;}", "turn", "", ",", ";", " ", "1",
    };
    private static long seed = 5L;

    private TableWays x;
    private String tape;
    private int kind;
    private int place;
    private final String[] tables = new String[8];
    private final int[] steps = new int[8];

    private static int next(int bound) {
        seed = seed * 6364136223846793005L + 1442695040888963407L;
        return (int) ((seed >>> 33) % bound);
    }

    private static int anyNumber() {
        int[] odd = {-1, 8, -2, 9, Integer.MIN_VALUE, Integer.MAX_VALUE};
        return next(3) == 0 ? odd[next(odd.length)] : next(8);
    }

    private void begin() {
        x = new TableWays();
        tape = "";
        kind = 0;
        place = TableWays.NONE;
        for (int i = 0; i < 8; i++) {
            tables[i] = "";
            steps[i] = 0;
        }
    }

    private void feed() {
        StringBuilder s = new StringBuilder(TEXTS[next(TEXTS.length)]);
        s.setLength(20);
        int[] five = new int[5];
        for (int k = 0; k < 20; k++) {
            five[k / 4] = five[k / 4] << 8 | s.charAt(k);
        }
        boolean room = tape.length() + 20 <= 1000;
        tape = room ? tape + s : tape;
        Check.due("feed", x.feed(five[0], five[1], five[2], five[3], five[4]), room ? tape.length() : TableWays.FULL);
    }

    /** Most often to where the texts end and the 0s of the latest feed begin. */
    private void end() {
        int zero = tape.indexOf('\u0000');
        int n = next(4) == 0 ? next(tape.length() + 3) - 1 : zero >= 0 ? zero : tape.length();
        boolean can = n >= 0 && n <= tape.length();
        tape = can ? tape.substring(0, n) : tape;
        Check.due("end(" + n + ")", x.end(n), can ? n : TableWays.NONE);
    }

    private void table() {
        int t = anyNumber();
        String text = tape;
        tape = "";
        if (t < 0 || t > 7) {
            Check.due("table(" + t + ")", x.table(t), TableWays.RANGE);
            return;
        }
        int[] fault = Model.tableFault(text);
        kind = fault[0];
        place = fault[1];
        tables[t] = kind == 0 ? text : tables[t];
        Check.due("table(" + t + ")", x.table(t), kind == 0 ? text.split(";", -1).length : TableWays.NONE);
    }

    private void way() {
        int w = anyNumber();
        String text = tape;
        tape = "";
        if (w < 0 || w > 7) {
            Check.due("way(" + w + ")", x.way(w), TableWays.RANGE);
            return;
        }
        Model.Reading reading = new Model.Reading(text);
        kind = reading.kind;
        place = reading.place;
        steps[w] = kind == 0 ? reading.way.size() : steps[w];
        Check.due("way(" + w + ")", x.way(w), kind == 0 ? steps[w] : TableWays.NONE);
    }

    private void compare() {
        Check.due("bytes of the tape", x.count(0), tape.length());
        Check.due("kind", x.fault(0), kind);
        Check.due("place", x.fault(1), place);
        int sum = 0;
        for (int i = 0; i < 8; i++) {
            sum += steps[i];
        }
        Check.due("steps of all ways", x.count(1), sum);
        int t = next(8);
        Check.due("table " + t, Check.read(x, t), tables[t]);
        Check.due("steps of " + t, x.steps(t), steps[t]);
    }

    private void run() {
        begin();
        // at most 512 calls with those that compare
        boolean manyFeeds = next(8) == 0;
        int calls = manyFeeds ? 75 : 12;
        for (int i = 0; i < calls; i++) {
            int call = next(manyFeeds ? 60 : 6);
            if (call == 0) {
                table();
            } else if (call == 1) {
                way();
            } else if (call == 2) {
                end();
            } else {
                feed();
                if (!manyFeeds) {
                    end();
                }
            }
            if (i % 5 == 4 || !manyFeeds) {
                compare();
            }
        }
    }

    public static void main(String[] args) {
        TapeTest test = new TapeTest();
        for (int i = 0; i < 6000; i++) {
            test.run();
        }
        Check.end();
    }
}
