/** Promise 5: way; the texts themselves stand in Term2WaysTest. */
public final class Promise05WayTest {
    private static void reads() {
        Check.says("Promise 5", "THE TAPE (read) is WAY w: how many STEPS");
        for (int w = 0; w < 8; w++) {
            TableWays x = new TableWays();
            Check.due("way(" + w + ")", Check.way(x, w, "drop 2; head;"), 2);
            Check.due("the tape is read", x.count(0), 0);
            for (int other = 0; other < 8; other++) {
                Check.due("way " + other, Check.readWay(x, other), other == w ? "2.2.0 13.0.0" : "");
            }
        }
        TableWays x = new TableWays();
        Check.due("a longer way", Check.way(x, 3, "repeat 6 {turn; turn;}"), 12);
        Check.due("a shorter one in its place", Check.way(x, 3, "head;"), 1);
        Check.due("a shorter one in its place", Check.readWay(x, 3), "13.0.0");
        Check.due("no text, no steps", x.way(3), 0);
        Check.due("no text, no steps", x.steps(3), 0);
        Check.due("its fault", x.fault(0), 0);
        Check.due("its fault", x.fault(1), TableWays.NONE);
    }

    private static void range() {
        Check.says("Promise 5", "RANGE: no such WAY");
        for (int w : Check.OFF_SHELF) {
            for (String text : new String[] {"head;", "A", ""}) {
                TableWays x = Check.furnished();
                x.end(0);
                String before = Check.all(x);
                Check.tell(x, text);
                Check.due("way(" + w + ") of " + text, x.way(w), TableWays.RANGE);
                Check.due("it reads the tape", x.count(0), 0);
                Check.due("it leaves all else", Check.all(x), before);
            }
        }
    }

    private static void fault() {
        Check.says("Promise 5", "NONE with a FAULT (II)");
        String[] texts = {"turn", "turn;drop 6;", "repeat 6{turn;head;swap 0;}"};
        int[] places = {4, 10, 26};
        for (int kind = 1; kind <= 3; kind++) {
            TableWays x = Check.furnished();
            x.end(0);
            Check.due("way of " + texts[kind - 1], Check.way(x, 1, texts[kind - 1]), TableWays.NONE);
            Check.due("its kind", x.fault(0), kind);
            Check.due("its place", x.fault(1), places[kind - 1]);
            Check.due("the way stays", Check.readWay(x, 1), "2.1.0 13.0.0");
            Check.due("the tape is read", x.count(0), 0);
            Check.due("all steps", x.count(1), 1 + 2 + 12 + 1);
        }
    }

    /** Nothing of a text with a FAULT is left to the next one. */
    private static void behindAFault() {
        Check.says("Promise 5", "THE TAPE (read) is WAY w");
        String[] wrong = {
            "turn", "drop 1; drop", "drop 1", "split 1", "sum 1", "repeat", "repeat 2", "repeat 2 {", "repeat 3 {turn;",
            "repeat 1{repeat 1{repeat 1{", "repeat 6{turn;head;swap 0;}", "repeat 6{turn;turn;}turn;", "sum 1 9;",
        };
        for (String w : wrong) {
            TableWays x = new TableWays();
            Check.due("way of " + w, Check.way(x, 0, w), TableWays.NONE);
            Check.due("no text behind it", x.way(0), 0);
            Check.way(x, 0, w);
            Check.due("a way behind " + w, Check.way(x, 0, "turn; repeat 2{repeat 2{repeat 2{drop 4;}}}"), 9);
            Check.due("a way behind " + w, x.stepAt(0, 8, 1), 4);
            Check.way(x, 0, w);
            Check.due("a } behind " + w, Check.way(x, 1, "}"), TableWays.NONE);
            Check.due("its place", x.fault(1), 0);
        }
    }

    public static void main(String[] args) {
        reads();
        behindAFault();
        range();
        fault();
        Check.end();
    }
}
