import java.util.ArrayList;
import java.util.Collections;
import java.util.Comparator;
import java.util.LinkedHashMap;
import java.util.LinkedHashSet;
import java.util.List;
import java.util.Map;

/**
 * The document told once more, slowly, with lists of Strings: tests compare the class with it. The
 * shortest WAYS are listed here by walking every row of STEPS, without merging STATES.
 */
final class Model {
    static final String MARKS = "-:/.";
    static final String[] WORDS = {
        "", "turn", "drop", "split", "fill", "join", "fold", "unfold", "sort", "single", "count", "sum",
        "keep", "head", "swap",
    };
    /** How many rows of STEPS a comparison may walk before it is given up. */
    static final int WORTH = 400000;

    private Model() {
    }

    static List<List<String>> parse(String text) {
        List<List<String>> table = new ArrayList<>();
        for (String row : text.split(";", -1)) {
            table.add(new ArrayList<>(List.of(row.split(",", -1))));
        }
        return table;
    }

    static String tell(List<List<String>> table) {
        List<String> rows = new ArrayList<>();
        for (List<String> row : table) {
            rows.add(String.join(",", row));
        }
        return String.join(";", rows);
    }

    static boolean fits(List<List<String>> one, List<List<String>> two) {
        if (one.size() != two.size() || one.get(0).size() != two.get(0).size()) {
            return false;
        }
        for (int r = 0; r < one.size(); r++) {
            for (int c = 0; c < one.get(0).size(); c++) {
                String x = one.get(r).get(c);
                String y = two.get(r).get(c);
                if (!x.equals(y) && !x.equals("?") && !y.equals("?")) {
                    return false;
                }
            }
        }
        return true;
    }

    /** What the STEP makes of the table, null if it CAN'T BE. */
    static List<List<String>> step(List<List<String>> in, int number, int a, int b) {
        for (List<String> row : in) {
            if (row.contains("?")) {
                return null;
            }
        }
        List<List<String>> out = raw(in, number, a, b);
        if (out == null || out.isEmpty() || out.size() > 12 || out.get(0).isEmpty() || out.get(0).size() > 6) {
            return null;
        }
        for (List<String> row : out) {
            for (String cell : row) {
                if (cell.length() > 7) {
                    return null;
                }
            }
        }
        return out;
    }

    private static List<List<String>> raw(List<List<String>> in, int number, int a, int b) {
        int rows = in.size();
        int columns = in.get(0).size();
        boolean bare = number == 1 || number == 7 || number == 9 || number == 13;
        boolean marked = number == 3 || number == 5;
        if (bare ? a != 0 : a < 0 || a >= columns) {
            return null;
        }
        if (marked ? b < 0 || b > 3 : number == 11 ? b < 0 || b >= columns : b != 0) {
            return null;
        }
        List<List<String>> out = new ArrayList<>();
        switch (number) {
            case 1:
                for (int c = 0; c < columns; c++) {
                    out.add(column(in, c));
                }
                return out;
            case 2:
                if (columns < 2) {
                    return null;
                }
                out = deep(in);
                for (List<String> row : out) {
                    row.remove(a);
                }
                return out;
            case 3:
                return split(in, a, MARKS.substring(b, b + 1));
            case 4:
                return fill(in, a);
            case 5:
                if (a + 1 >= columns) {
                    return null;
                }
                out = deep(in);
                for (List<String> row : out) {
                    String behind = row.remove(a + 1);
                    row.set(a, row.get(a) + MARKS.charAt(b) + behind);
                }
                return out;
            case 6:
                return fold(in, a);
            case 7:
                return unfold(in);
            case 8:
                out = deep(in);
                out.sort(Comparator.comparing(row -> row.get(a)));
                return out.equals(in) ? null : out;
            case 9:
                out = deep(new ArrayList<>(new LinkedHashSet<>(in)));
                return out.size() == rows ? null : out;
            case 10:
            case 11:
                return amounts(in, number, a, b);
            case 12:
                out = deep(in);
                out.removeIf(row -> row.get(a).isEmpty());
                return out.size() == rows ? null : out;
            case 13:
                return rows < 2 ? null : deep(in.subList(1, rows));
            default:
                if (a + 1 >= columns) {
                    return null;
                }
                out = deep(in);
                for (List<String> row : out) {
                    Collections.swap(row, a, a + 1);
                }
                return out;
        }
    }

    private static List<String> column(List<List<String>> in, int c) {
        List<String> cells = new ArrayList<>();
        for (List<String> row : in) {
            cells.add(row.get(c));
        }
        return cells;
    }

    private static List<List<String>> deep(List<List<String>> in) {
        List<List<String>> out = new ArrayList<>();
        for (List<String> row : in) {
            out.add(new ArrayList<>(row));
        }
        return out;
    }

    private static List<List<String>> split(List<List<String>> in, int a, String mark) {
        List<List<String>> out = deep(in);
        boolean some = false;
        for (List<String> row : out) {
            String[] parts = row.get(a).split(java.util.regex.Pattern.quote(mark), 2);
            some |= parts.length == 2;
            row.set(a, parts[0]);
            row.add(a + 1, parts.length == 2 ? parts[1] : "");
        }
        return some ? out : null;
    }

    private static List<List<String>> fill(List<List<String>> in, int a) {
        List<List<String>> out = deep(in);
        String last = out.get(0).get(a);
        for (List<String> row : out) {
            if (row.get(a).isEmpty()) {
                row.set(a, last);
            }
            last = row.get(a);
        }
        return out.equals(in) ? null : out;
    }

    private static List<List<String>> fold(List<List<String>> in, int a) {
        if (a < 1 || in.size() < 2) {
            return null;
        }
        List<List<String>> out = new ArrayList<>();
        for (List<String> row : in.subList(1, in.size())) {
            for (int j = a; j < row.size(); j++) {
                List<String> made = new ArrayList<>(row.subList(0, a));
                made.add(in.get(0).get(j));
                made.add(row.get(j));
                out.add(made);
            }
        }
        return out;
    }

    private static List<List<String>> unfold(List<List<String>> in) {
        int ahead = in.get(0).size() - 2;
        if (ahead < 1) {
            return null;
        }
        List<String> names = new ArrayList<>(new LinkedHashSet<>(column(in, ahead)));
        Map<List<String>, Map<String, String>> cells = new LinkedHashMap<>();
        for (List<String> row : in) {
            Map<String, String> of = cells.computeIfAbsent(row.subList(0, ahead), k -> new LinkedHashMap<>());
            if (of.put(row.get(ahead), row.get(ahead + 1)) != null) {
                return null;
            }
        }
        List<List<String>> out = new ArrayList<>();
        List<String> first = new ArrayList<>(Collections.nCopies(ahead, ""));
        first.addAll(names);
        out.add(first);
        cells.forEach((beginning, of) -> {
            List<String> row = new ArrayList<>(beginning);
            for (String name : names) {
                row.add(of.getOrDefault(name, ""));
            }
            out.add(row);
        });
        return out;
    }

    private static List<List<String>> amounts(List<List<String>> in, int number, int a, int b) {
        if (number == 11 && a == b) {
            return null;
        }
        Map<String, Long> sums = new LinkedHashMap<>();
        for (List<String> row : in) {
            if (number == 11 && !row.get(b).matches("[0-9]{1,6}")) {
                return null;
            }
            sums.merge(row.get(a), number == 11 ? Long.parseLong(row.get(b)) : 1L, Long::sum);
        }
        List<List<String>> out = new ArrayList<>();
        for (Map.Entry<String, Long> e : sums.entrySet()) {
            if (e.getValue() >= 1000000) {
                return null;
            }
            out.add(new ArrayList<>(List.of(e.getKey(), Long.toString(e.getValue()))));
        }
        return out;
    }

    /** What comes of the STEPS; null with stop[0] set to the one that CAN'T BE. */
    static List<List<String>> walk(List<int[]> way, List<List<String>> table, int[] stop) {
        List<List<String>> now = table;
        for (int i = 0; i < way.size(); i++) {
            now = step(now, way.get(i)[0], way.get(i)[1], way.get(i)[2]);
            if (now == null) {
                stop[0] = i;
                return null;
            }
        }
        return now;
    }

    /** All STEPS that a search tries, in order. */
    static List<int[]> allSteps() {
        List<int[]> all = new ArrayList<>();
        for (int number = 1; number <= 14; number++) {
            for (int a = 0; a < 6; a++) {
                for (int b = 0; b < 6; b++) {
                    all.add(new int[] {number, a, b});
                }
            }
        }
        return all;
    }

    /** What a search finds. */
    static final class Finding {
        int answer;
        int ways;
        int states;
        int ends;
        final List<String> told = new ArrayList<>();
        boolean givenUp = false;
        private int walked = 0;
    }

    static Finding find(String t, String wish, String u, String v, int most) {
        Finding f = new Finding();
        List<List<List<String>>> start = new ArrayList<>();
        List<List<List<String>>> wished = new ArrayList<>();
        start.add(parse(t));
        wished.add(parse(wish));
        if (u != null) {
            start.add(parse(u));
            wished.add(parse(v));
        }
        LinkedHashSet<List<List<List<String>>>> seen = new LinkedHashSet<>();
        seen.add(start);
        List<List<List<List<String>>>> level = new ArrayList<>(seen);
        f.answer = -1;
        f.ends = isEnd(start, wished) ? 1 : 0;
        for (int length = 0; length <= most; length++) {
            if (length > 0) {
                level = nextLevel(f, level, seen, wished);
            }
            if (f.answer == -3) {
                break;
            }
            if (f.ends > 0) {
                f.answer = length;
                list(f, start, wished, length, "");
                break;
            }
        }
        f.states = seen.size();
        return f;
    }

    private static List<List<List<List<String>>>> nextLevel(Finding f, List<List<List<List<String>>>> level,
            LinkedHashSet<List<List<List<String>>>> seen, List<List<List<String>>> wished) {
        List<List<List<List<String>>>> next = new ArrayList<>();
        for (List<List<List<String>>> state : level) {
            for (int[] s : allSteps()) {
                List<List<List<String>>> made = both(state, s);
                if (made == null || seen.contains(made)) {
                    continue;
                }
                if (seen.size() == 1500) {
                    f.answer = -3;
                    return next;
                }
                seen.add(made);
                next.add(made);
                f.ends += isEnd(made, wished) ? 1 : 0;
            }
        }
        return next;
    }

    private static List<List<List<String>>> both(List<List<List<String>>> state, int[] s) {
        List<List<List<String>>> made = new ArrayList<>();
        for (List<List<String>> table : state) {
            List<List<String>> one = step(table, s[0], s[1], s[2]);
            if (one == null) {
                return null;
            }
            made.add(one);
        }
        return made;
    }

    private static boolean isEnd(List<List<List<String>>> state, List<List<List<String>>> wished) {
        for (int i = 0; i < state.size(); i++) {
            if (!fits(state.get(i), wished.get(i))) {
                return false;
            }
        }
        return true;
    }

    private static void list(Finding f, List<List<List<String>>> state, List<List<List<String>>> wished, int left,
            String told) {
        f.walked++;
        if (f.walked > WORTH) {
            f.givenUp = true;
        }
        if (f.givenUp) {
            return;
        }
        if (left == 0) {
            if (isEnd(state, wished)) {
                f.ways = Math.min(1000000, f.ways + 1);
                if (f.told.size() < 60) {
                    f.told.add(told);
                }
            }
            return;
        }
        for (int[] s : allSteps()) {
            List<List<List<String>>> made = both(state, s);
            if (made != null) {
                list(f, made, wished, left - 1, (told.isEmpty() ? "" : told + " ") + s[0] + "." + s[1] + "." + s[2]);
            }
        }
    }

    /** The answer of part(); the table in told[0] where there is one. */
    static int part(List<int[]> w, List<int[]> v, int c, int r, String[] told) {
        String[] texts = {"", "a", "b", "a-b", "1", "2"};
        int tried = 0;
        for (int rows = 1; rows <= r; rows++) {
            int[] digits = new int[rows * c];
            boolean more = true;
            while (more) {
                if (tried == 1000) {
                    return -3;
                }
                tried++;
                List<List<String>> table = new ArrayList<>();
                for (int row = 0; row < rows; row++) {
                    List<String> cells = new ArrayList<>();
                    for (int k = 0; k < c; k++) {
                        cells.add(texts[digits[row * c + k]]);
                    }
                    table.add(cells);
                }
                List<List<String>> one = walk(w, table, new int[1]);
                List<List<String>> two = walk(v, table, new int[1]);
                if (one == null ? two != null : !one.equals(two)) {
                    told[0] = tell(table);
                    return tried;
                }
                int at = digits.length - 1;
                while (at >= 0 && digits[at] == 5) {
                    digits[at] = 0;
                    at--;
                }
                more = at >= 0;
                if (more) {
                    digits[at]++;
                }
            }
        }
        return -1;
    }

    /** KIND and PLACE of a table's text, {0, -1} without a FAULT: every byte is judged by what is ahead of it. */
    static int[] tableFault(String text) {
        for (int i = 0; i <= text.length(); i++) {
            String[] rows = text.substring(0, i).split(";", -1);
            String[] cells = rows[rows.length - 1].split(",", -1);
            String cell = cells[cells.length - 1];
            int first = rows.length > 1 ? rows[0].split(",", -1).length : 99;
            String x = i < text.length() ? text.substring(i, i + 1) : "";
            boolean ends = x.isEmpty() || x.equals(";");
            int kind = 0;
            if (ends && rows.length > 1 && cells.length < first || x.equals(",") && cells.length + 1 > first) {
                kind = 3;
            } else if (x.equals(",") && cells.length == 6 || x.equals(";") && rows.length == 12) {
                kind = 4;
            } else if (!ends && !x.equals(",")) {
                boolean good = x.matches("[a-z0-9:/.?-]") && !cell.equals("?") && (!x.equals("?") || cell.isEmpty());
                kind = !good ? 1 : cell.length() == 7 ? 2 : 0;
            }
            if (kind != 0) {
                return new int[] {kind, i};
            }
        }
        return new int[] {0, -1};
    }

    /** A FAULT that a reading of a way comes to. */
    private static final class Fault extends RuntimeException {
        private static final long serialVersionUID = 1L;
        final int kind;
        final int place;

        Fault(int kind, int place) {
            this.kind = kind;
            this.place = place;
        }
    }

    /** A reading of a way by its grammar, rule by rule. */
    static final class Reading {
        private final List<String> tokens = new ArrayList<>();
        private final List<Integer> places = new ArrayList<>();
        private int at = 0;
        int kind = 0;
        int place = -1;
        List<int[]> way = new ArrayList<>();

        Reading(String text) {
            java.util.regex.Matcher m = java.util.regex.Pattern.compile("[a-z]+|[^ \\n]", java.util.regex.Pattern.DOTALL).matcher(text);
            while (m.find()) {
                tokens.add(m.group());
                places.add(m.start());
            }
            tokens.add("");
            places.add(text.length());
            try {
                way = readWay(0, 0);
                need(tokens.get(at).isEmpty(), 1);
            } catch (Fault f) {
                kind = f.kind;
                place = f.place;
            }
        }

        private void need(boolean good, int faultKind) {
            if (!good) {
                throw new Fault(faultKind, places.get(at));
            }
        }

        private String pass(String form) {
            String token = tokens.get(at);
            need(token.matches(form), 1);
            return token;
        }

        private int digit(int least, int most) {
            int n = Integer.parseInt(pass("[0-9]"));
            need(n >= least && n <= most, 2);
            at++;
            return n;
        }

        private List<int[]> readWay(int ahead, int depth) {
            List<int[]> steps = new ArrayList<>();
            while (tokens.get(at).matches("[a-z]+")) {
                steps.addAll(readStep(ahead + steps.size(), depth));
            }
            return steps;
        }

        private List<int[]> readStep(int ahead, int depth) {
            String word = tokens.get(at);
            if (word.equals("repeat")) {
                return readRepeat(ahead, depth);
            }
            int number = List.of(WORDS).indexOf(word);
            need(number > 0, 1);
            need(ahead < 12, 3);
            at++;
            int[] step = {number, 0, 0};
            if (!word.matches("turn|unfold|single|head")) {
                step[1] = digit(0, 5);
            }
            if (word.matches("split|join")) {
                step[2] = MARKS.indexOf(pass("[-:/.]"));
                at++;
            }
            if (word.equals("sum")) {
                step[2] = digit(0, 5);
            }
            pass(";");
            at++;
            return List.of(step);
        }

        private List<int[]> readRepeat(int ahead, int depth) {
            at++;
            int often = digit(1, 6);
            pass("\\{");
            need(depth < 3, 3);
            at++;
            List<int[]> body = readWay(ahead, depth + 1);
            pass("\\}");
            need(ahead + body.size() * often <= 12, 3);
            at++;
            List<int[]> all = new ArrayList<>();
            for (int i = 0; i < often; i++) {
                all.addAll(body);
            }
            return all;
        }
    }
}
