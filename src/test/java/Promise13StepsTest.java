/** Promise 13: steps. */
public final class Promise13StepsTest {
    private static void howMany() {
        Check.says("Promise 13", "How many STEPS WAY w has");
        for (int n = 0; n <= 12; n++) {
            StringBuilder text = new StringBuilder();
            for (int i = 0; i < n; i++) {
                text.append("head;");
            }
            TableWays x = new TableWays();
            Check.way(x, n % 8, text.toString());
            for (int w = 0; w < 8; w++) {
                Check.due("steps(" + w + ")", x.steps(w), w == n % 8 ? n : 0);
            }
        }
    }

    private static void range() {
        Check.says("Promise 13", "RANGE");
        for (int i : Check.OFF_SHELF) {
            Check.refused("steps(" + i + ")", x -> x.steps(i), TableWays.RANGE);
        }
    }

    public static void main(String[] args) {
        howMany();
        range();
        Check.end();
    }
}
