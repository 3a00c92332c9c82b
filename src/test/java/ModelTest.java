import java.util.ArrayList;
import java.util.List;

/** Promises 11, 12, 16 to 19: the class beside the slow model, on tables and ways made by a fixed row of numbers. */
public final class ModelTest {
    private static long seed = 20261118L;

    private static int next(int bound) {
        seed = seed * 6364136223846793005L + 1442695040888963407L;
        return (int) ((seed >>> 33) % bound);
    }

    private static final String[][] CELLS = {
        {"", "a", "b", "a-b", "1", "2"},
        {"a", "b", "c", "", "x", "y", "ab", "abc"},
        {"1", "2", "03", "10", "999999", "500000", "a", "0"},
        {"a:b", "a-b", "a/b", "a.b", "-", "", "x:y-z", "q"},
        {"abcdefg", "abcdef", "abc", "ab", "", "a", "b-c", "12"},
    };

    private static String randomTable(int mostRows, int mostColumns, int anyOutOf) {
        int rows = 1 + next(mostRows);
        int columns = 1 + next(mostColumns);
        String[] cells = CELLS[next(CELLS.length)];
        int kinds = 1 + next(cells.length);
        StringBuilder s = new StringBuilder();
        for (int i = 0; i < rows * columns; i++) {
            if (i > 0) {
                s.append(i % columns == 0 ? ';' : ',');
            }
            s.append(anyOutOf > 0 && next(anyOutOf) == 0 ? "?" : cells[next(kinds)]);
        }
        return s.toString();
    }

    private static int[] randomStep() {
        int number = 1 + next(14);
        boolean bare = number == 1 || number == 7 || number == 9 || number == 13;
        int a = bare ? 0 : next(4);
        int b = number == 3 || number == 5 ? next(4) : number == 11 ? next(3) : 0;
        return new int[] {number, a, b};
    }

    private static String textOf(int[] s) {
        StringBuilder t = new StringBuilder(Model.WORDS[s[0]]);
        boolean bare = s[0] == 1 || s[0] == 7 || s[0] == 9 || s[0] == 13;
        if (!bare) {
            t.append(' ').append(s[1]);
        }
        if (s[0] == 3 || s[0] == 5) {
            t.append(' ').append(Model.MARKS.charAt(s[2]));
        }
        if (s[0] == 11) {
            t.append(' ').append(s[2]);
        }
        return t.append(';').toString();
    }

    private static void steps() {
        for (int i = 0; i < 4000; i++) {
            TableWays x = new TableWays();
            String table = randomTable(12, 6, i % 20 == 0 ? 30 : 0);
            Check.table(x, 0, table);
            for (int number = 1; number <= 14; number++) {
                for (int a = 0; a < 6; a++) {
                    int b = number == 3 || number == 5 || number == 11 ? next(6) : 0;
                    x.copy(0, 1);
                    List<List<String>> made = Model.step(Model.parse(table), number, a, b);
                    String what = "step " + number + " " + a + " " + b + " of " + table;
                    Check.due(what, x.step(1, number, a, b), made == null ? -1 : made.size());
                    Check.due(what, Check.read(x, 1), made == null ? table : Model.tell(made));
                }
            }
        }
    }

    private static List<int[]> randomWay(int most) {
        List<int[]> way = new ArrayList<>();
        int n = next(most + 1);
        for (int k = 0; k < n; k++) {
            way.add(randomStep());
        }
        return way;
    }

    private static void tellWay(TableWays x, int w, List<int[]> way) {
        StringBuilder s = new StringBuilder();
        for (int[] one : way) {
            s.append(textOf(one));
        }
        Check.due("way " + s, Check.way(x, w, s.toString()), way.size());
    }

    /** A WAY that can be walked for as long as luck has it. */
    private static List<int[]> walkableWay(String table, int most) {
        List<int[]> way = new ArrayList<>();
        List<List<String>> now = Model.parse(table);
        for (int k = 0; k < 40 && way.size() < most; k++) {
            int[] s = randomStep();
            List<List<String>> made = Model.step(now, s[0], s[1], s[2]);
            if (made != null) {
                now = made;
                way.add(s);
            }
        }
        if (next(4) == 0 && way.size() < most) {
            way.add(randomStep());
        }
        return way;
    }

    private static void walks() {
        for (int i = 0; i < 4000; i++) {
            TableWays x = new TableWays();
            String table = randomTable(6, 5, i % 20 == 0 ? 30 : 0);
            List<int[]> way = walkableWay(table, 1 + next(12));
            Check.table(x, 0, table);
            tellWay(x, 4, way);
            int[] stop = new int[1];
            List<List<String>> made = Model.walk(way, Model.parse(table), stop);
            String what = "walk on " + table + " of " + Check.readWay(x, 4);
            Check.due(what, x.walk(4, 0, 1), made == null ? -10 - stop[0] : made.size());
            Check.due(what, Check.read(x, 1), made == null ? "" : Model.tell(made));
            Check.due(what, Check.read(x, 0), table);
        }
    }

    private static String withAnys(String table, int outOf) {
        List<List<String>> t = Model.parse(table);
        for (List<String> row : t) {
            for (int c = 0; c < row.size(); c++) {
                if (next(outOf) == 0) {
                    row.set(c, "?");
                }
            }
        }
        return Model.tell(t);
    }

    private static String walked(List<int[]> way, String table) {
        List<List<String>> made = Model.walk(way, Model.parse(table), new int[1]);
        return made == null ? table : Model.tell(made);
    }

    private static int[] finds() {
        int[] kinds = new int[6];
        TableWays x = new TableWays();
        for (int i = 0; i < 700; i++) {
            // an object is used for 512 calls at most, but often enough to see that searches don't mix
            if (i % 2 == 0) {
                x = new TableWays();
            }
            boolean two = next(3) == 0;
            int rows = 1 + next(i % 3 == 0 ? 8 : 3);
            int columns = 1 + next(i % 3 == 0 ? 5 : 3);
            String t = randomTable(rows, columns, i % 25 == 0 ? 5 : 0);
            String u = two ? randomTable(rows, columns, 0) : null;
            List<int[]> way = walkableWay(t, next(5) == 0 ? 0 : next(5) == 0 ? 1 : 3);
            String wish = walked(way, t);
            String v = two ? walked(way, u) : null;
            if (next(2) == 0) {
                wish = withAnys(wish, 1 + next(4));
            }
            if (two && next(3) == 0) {
                v = withAnys(v, 1 + next(3));
            }
            kinds[compareFind(x, new String[] {t, wish, u, v}, next(6) == 0 ? next(4) : 3)]++;
        }
        return kinds;
    }

    /** The answer and 3, or 5 of FULL; ways that are too many for the model are left uncompared. */
    private static int compareFind(TableWays x, String[] four, int most) {
        for (int k = 0; k < 4; k++) {
            if (four[k] != null) {
                Check.table(x, k, four[k]);
            }
        }
        Model.Finding f = Model.find(four[0], four[1], four[2], four[3], most);
        String what = "find " + String.join(" | ", four[0], four[1], "" + four[2], "" + four[3], "" + most);
        int u = four[2] == null ? -1 : 2;
        int v = four[2] == null ? -1 : 3;
        Check.due(what, x.find(0, 1, u, v, most), f.answer);
        Check.due("states of " + what, x.found(1), f.states);
        Check.due("ends of " + what, x.found(2), f.ends);
        if (!f.givenUp) {
            Check.due("ways of " + what, x.found(0), f.ways);
            for (int i = 0; i <= f.told.size() && i < 62; i++) {
                boolean there = i < f.told.size();
                Check.due("take " + i + " of " + what, x.take(i, 7), there ? f.answer : TableWays.NONE);
                if (there) {
                    Check.due("way " + i + " of " + what, Check.readWay(x, 7), f.told.get(i));
                }
            }
        }
        return f.answer == TableWays.FULL ? 5 : f.answer + 1;
    }

    private static int[] parts() {
        int[] kinds = new int[3];
        for (int i = 0; i < 1500; i++) {
            TableWays x = new TableWays();
            List<int[]> w = randomWay(1 + next(2));
            List<int[]> v = next(3) == 0 ? new ArrayList<>(w) : randomWay(1 + next(2));
            if (next(3) == 0) {
                w.add(new int[] {1, 0, 0});
                w.add(new int[] {1, 0, 0});
            }
            tellWay(x, 1, w);
            tellWay(x, 2, v);
            int c = 1 + next(3);
            int r = 1 + next(2);
            Check.table(x, 6, "q");
            String[] told = {"q"};
            int answer = Model.part(w, v, c, r, told);
            String what = "part " + Check.readWay(x, 1) + " | " + Check.readWay(x, 2) + " on " + c + " " + r;
            Check.due(what, x.part(1, 2, c, r, 6), answer);
            Check.due(what, Check.read(x, 6), told[0]);
            kinds[answer > 0 ? 0 : answer == -1 ? 1 : 2]++;
        }
        return kinds;
    }

    private static int[] tableTexts() {
        int[] kinds = new int[5];
        String[] odd = {",", ";", "?", "a", "A", "abcdef", "-", " ", "12", ",,", ";;", "\u00e9", ""};
        for (int i = 0; i < 20000; i++) {
            StringBuilder s = new StringBuilder(randomTable(13, 7, 9));
            for (int k = next(4); k > 0; k--) {
                int at = next(s.length() + 1);
                int to = Math.min(s.length(), at + next(3));
                s.replace(at, to, odd[next(odd.length)]);
            }
            String text = s.toString();
            TableWays x = new TableWays();
            int[] fault = Model.tableFault(text);
            String what = "table of " + text;
            Check.due(what, Check.table(x, 0, text), fault[0] != 0 ? -1 : text.split(";", -1).length);
            Check.due("kind of " + what, x.fault(0), fault[0]);
            Check.due("place of " + what, x.fault(1), fault[1]);
            Check.due("cells of " + what, Check.read(x, 0), fault[0] != 0 ? "" : text);
            kinds[fault[0]]++;
        }
        return kinds;
    }

    private static String randomWayText(int depth) {
        StringBuilder s = new StringBuilder();
        for (int k = next(5); k > 0; k--) {
            if (next(4) == 0 && depth < 5) {
                s.append("repeat ").append(1 + next(3)).append(next(2) == 0 ? "{" : " {\n");
                s.append(randomWayText(depth + 1)).append('}');
            } else {
                s.append(textOf(randomStep()));
            }
            s.append(next(3) == 0 ? " " : "");
        }
        return s.toString();
    }

    private static int[] wayTexts() {
        int[] kinds = new int[4];
        String[] odd = {"turn", "turn;", "repeat", "repeat 6{", "{", "}", ";", "1", "6", "7", "0", "-", ".", " ", "\n", "x", "A", "?", "\u0000", ""};
        for (int i = 0; i < 40000; i++) {
            StringBuilder s = new StringBuilder(randomWayText(0));
            for (int k = next(3); k > 0; k--) {
                int at = next(s.length() + 1);
                int to = Math.min(s.length(), at + next(4));
                s.replace(at, to, odd[next(odd.length)]);
            }
            String text = s.length() > 1000 ? s.substring(0, 1000) : s.toString();
            TableWays x = new TableWays();
            Model.Reading reading = new Model.Reading(text);
            StringBuilder way = new StringBuilder();
            for (int[] step : reading.way) {
                way.append(way.length() == 0 ? "" : " ").append(step[0]).append('.').append(step[1]).append('.').append(step[2]);
            }
            String what = "way of " + text;
            Check.due(what, Check.way(x, 0, text), reading.kind != 0 ? -1 : reading.way.size());
            Check.due("kind of " + what, x.fault(0), reading.kind);
            Check.due("place of " + what, x.fault(1), reading.place);
            Check.due("steps of " + what, Check.readWay(x, 0), reading.kind != 0 ? "" : way.toString());
            kinds[reading.kind]++;
        }
        return kinds;
    }

    public static void main(String[] args) {
        int[] t = tableTexts();
        System.out.println("table texts: good " + t[0] + ", KINDS 1 to 4: " + t[1] + ", " + t[2] + ", " + t[3] + ", " + t[4]);
        int[] w = wayTexts();
        System.out.println("way texts: good " + w[0] + ", KINDS 1 to 3: " + w[1] + ", " + w[2] + ", " + w[3]);
        steps();
        walks();
        int[] f = finds();
        System.out.println("finds: NONE " + f[0] + ", 0 " + f[1] + ", 1 " + f[2] + ", 2 " + f[3] + ", 3 " + f[4] + ", FULL " + f[5]);
        int[] p = parts();
        System.out.println("parts: parted " + p[0] + ", NONE " + p[1] + ", FULL " + p[2]);
        Check.end();
    }
}
