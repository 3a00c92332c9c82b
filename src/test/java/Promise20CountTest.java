/** Promise 20: count. */
public final class Promise20CountTest {
    private static void bytes() {
        Check.says("Promise 20", "What 0: bytes of THE TAPE");
        TableWays x = new TableWays();
        Check.due("at first", x.count(0), 0);
        for (int i = 1; i <= 50; i++) {
            x.feed(0, 0, 0, 0, 0);
            Check.due("behind feed " + i, x.count(0), 20 * i);
        }
        x.feed(0, 0, 0, 0, 0);
        Check.due("behind a FULL feed", x.count(0), 1000);
        x.end(333);
        Check.due("behind end(333)", x.count(0), 333);
        x.end(334);
        Check.due("behind an end that was NONE", x.count(0), 333);
        x.table(0);
        Check.due("behind table", x.count(0), 0);
        x.feed(0, 0, 0, 0, 0);
        x.way(0);
        Check.due("behind way", x.count(0), 0);
    }

    private static void steps() {
        Check.says("Promise 20", "1: STEPS of all WAYS");
        TableWays x = new TableWays();
        Check.due("at first", x.count(1), 0);
        for (int w = 0; w < 8; w++) {
            Check.way(x, w, "repeat 6 {turn; head;}");
            Check.due("with " + (w + 1) + " ways of twelve", x.count(1), 12 * (w + 1));
        }
        Check.way(x, 3, "turn;");
        Check.due("one is shorter", x.count(1), 85);
        Check.way(x, 3, "turn");
        Check.due("a FAULT leaves it", x.count(1), 85);
        x.chain(3, 3, 0);
        Check.due("behind chain", x.count(1), 75);
        x.find(0, 0, TableWays.NONE, TableWays.NONE, 0);
        x.take(0, 1);
        Check.due("behind take", x.count(1), 63);
    }

    private static void others() {
        Check.says("Promise 20", "NONE for others");
        for (int what : new int[] {-1, 2, 3, Integer.MIN_VALUE, Integer.MAX_VALUE}) {
            Check.refused("count(" + what + ")", x -> x.count(what), TableWays.NONE);
        }
    }

    public static void main(String[] args) {
        bytes();
        steps();
        others();
        Check.end();
    }
}
