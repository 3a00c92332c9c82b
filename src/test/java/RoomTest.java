import java.lang.management.ManagementFactory;

/**
 * The room of a run: 600,000 objects and arrays, 7.3 million fields and elements. An element has at most
 * 8 bytes and an object 16 more, so what is told in bytes here is a bound that is safe by far.
 */
public final class RoomTest {
    private static final long MOST_BYTES = 8_000_000L;
    private static final String[] TABLES = {
        "a,b,c,d,e,f;1,2,3,4,5,6;a,x,,1,2,3",
        "a-b,1,2;,3,4;b:c,5,6;,7,8;a-b,1,2;d.e,1,1",
        "k,x,y,z;a,1,2,3;b,4,5,6;c,7,8,9",
        "a,1;b,2;a,3;b,4;c,5;,6;a,1;b,2;a,3;b,4;c,5;,6",
        "b,1,2,3,4,5;a,1,2,3,4,5;,1,2,3,4,5;b,1,2,3,4,5;a,1,2,3,4,5;,1,2,3,4,5;"
            + "b,1,2,3,4,5;a,1,2,3,4,5;,1,2,3,4,5;b,1,2,3,4,5;a,1,2,3,4,5;,1,2,3,4,5",
        "1,2,3",
    };

    private static long allocated() {
        return ((com.sun.management.ThreadMXBean) ManagementFactory.getThreadMXBean()).getCurrentThreadAllocatedBytes();
    }

    /** 512 calls on one object, nearly all of them as dear as can be. */
    private static void finds() {
        long before = allocated();
        TableWays x = new TableWays();
        int calls = 0;
        for (int t = 0; t < TABLES.length; t++) {
            calls += 2 + (TABLES[t].length() + 19) / 20;
            Check.table(x, t, TABLES[t]);
        }
        Check.table(x, 7, "zz");
        int full = 0;
        for (; calls < 512; calls++) {
            int t = calls % TABLES.length;
            int u = (t + calls / 7) % TABLES.length;
            int answer = calls % 3 == 0 ? x.find(t, 7, u, 7, 3) : x.find(t, 7, -1, -1, 3);
            full += answer == TableWays.FULL ? 1 : 0;
        }
        long bytes = allocated() - before;
        System.out.println(full + " finds were FULL, all took " + bytes + " bytes");
        Check.due("finds that fill the STATES", full > 200 ? 1 : 0, 1);
        Check.due("finds stay in the room", bytes < MOST_BYTES ? 1 : 0, 1);
    }

    private static void parts() {
        TableWays x = new TableWays();
        Check.way(x, 0, "repeat 6 { turn; turn; }");
        Check.way(x, 1, "repeat 6 { swap 0; swap 0; }");
        long before = allocated();
        for (int calls = 0; calls < 500; calls++) {
            x.part(0, 1, 3, 2, 5);
        }
        long bytes = allocated() - before;
        System.out.println("500 parts took " + bytes + " bytes");
        Check.due("parts stay in the room", bytes < 10_000L ? 1 : 0, 1);
    }

    /** A run may make objects too. */
    private static void objects() {
        long before = allocated();
        int sum = 0;
        for (int calls = 0; calls < 512; calls++) {
            sum += new TableWays().size(0, 0);
        }
        long bytes = allocated() - before;
        System.out.println(sum + " objects took " + bytes + " bytes");
        Check.due("objects stay in the room", bytes < 6L * MOST_BYTES ? 1 : 0, 1);
    }

    public static void main(String[] args) {
        // once ahead, so that loading classes isn't counted
        new TableWays().find(0, 0, -1, -1, 3);
        Check.read(new TableWays(), 0);
        finds();
        parts();
        objects();
        Check.end();
    }
}
