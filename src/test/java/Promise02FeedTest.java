/** Promise 2: feed. */
public final class Promise02FeedTest {
    private static int blanks(TableWays x) {
        return x.feed(0x20202020, 0x20202020, 0x20202020, 0x20202020, 0x20202020);
    }

    private static TableWays withTape(int bytes) {
        TableWays x = new TableWays();
        for (int i = 0; i < bytes; i += 20) {
            blanks(x);
        }
        x.end(bytes);
        return x;
    }

    private static void order() {
        Check.says("Promise 2", "Twenty bytes come behind THE TAPE, the highest of each int first");
        TableWays x = new TableWays();
        x.feed(0x61626364, 0x65662c67, 0x68696a6b, 0x6c2c6d6e, 0x6f707172);
        x.table(0);
        Check.due("bytes in their order", Check.read(x, 0), "abcdef,ghijkl,mnopqr");
        x.feed(0x61620000, 0, 0, 0, 0);
        x.end(2);
        x.feed(0x63643b65, 0, 0, 0, 0);
        x.end(6);
        x.table(0);
        Check.due("behind those that are there", Check.read(x, 0), "abcd;e");
    }

    /** The place of the FAULT tells which of the twenty bytes it is. */
    private static void highBytes() {
        Check.says("Promise 2", "Twenty bytes come behind THE TAPE");
        for (int at = 0; at < 20; at++) {
            int[] five = {0x2c2c2c2c, 0x2c3b2c2c, 0x2c2c2c3b, 0x2c2c2c2c, 0x2c3b2c2c};
            int shift = 24 - 8 * (at % 4);
            five[at / 4] = five[at / 4] & ~(255 << shift) | 0xff << shift;
            TableWays x = new TableWays();
            Check.due("feed", x.feed(five[0], five[1], five[2], five[3], five[4]), 20);
            Check.due("table with a 255 at " + at, x.table(0), TableWays.NONE);
            Check.due("kind with a 255 at " + at, x.fault(0), 1);
            Check.due("place with a 255 at " + at, x.fault(1), at);
        }
        TableWays x = new TableWays();
        x.feed(-1, -1, -1, -1, -1);
        Check.due("bytes of 255", x.table(0), TableWays.NONE);
        x.feed(0x80808080, 0, 0, 0, 0);
        Check.due("bytes of 128", x.way(0), TableWays.NONE);
        Check.due("their place", x.fault(1), 0);
    }

    private static void howMany() {
        Check.says("Promise 2", "how many it has");
        TableWays x = new TableWays();
        for (int i = 1; i <= 50; i++) {
            Check.due("feed " + i, blanks(x), 20 * i);
            Check.due("bytes behind feed " + i, x.count(0), 20 * i);
        }
        TableWays y = withTape(7);
        Check.due("feed behind 7", blanks(y), 27);
    }

    private static void full() {
        Check.says("Promise 2", "FULL when there would be more than 1000");
        Check.due("feed behind 980", blanks(withTape(980)), 1000);
        Check.due("feed behind 979", blanks(withTape(979)), 999);
        for (int bytes : new int[] {981, 990, 999, 1000}) {
            TableWays x = withTape(bytes);
            Check.due("feed behind " + bytes, x.feed(-1, -1, -1, -1, -1), TableWays.FULL);
            Check.due("tape behind FULL", x.count(0), bytes);
            Check.due("once more", blanks(x), TableWays.FULL);
            Check.due("blanks alone are a way", x.way(0), 0);
            Check.due("feed on the empty tape", blanks(x), 20);
        }
        TableWays x = withTape(1000);
        Check.due("room is made", x.end(980), 980);
        Check.due("and taken", x.feed(0x20202020, 0x20202020, 0x20202020, 0x20202020, 0x2020203b), 1000);
        Check.due("all 1000 are read", x.way(0), TableWays.NONE);
        Check.due("up to the last", x.fault(1), 999);
    }

    public static void main(String[] args) {
        order();
        highBytes();
        howMany();
        full();
        Check.end();
    }
}
