/** Term II, WAYS: their texts, TOKEN by TOKEN, and their FAULTS. */
public final class Term2WaysTest {
    private static final int SYNTAX = 1;
    private static final int NUMBER = 2;
    private static final int ROOM = 3;
    private static final String TWELVE = "repeat 6{turn;turn;}";

    private static void reads(String text, String steps) {
        TableWays x = new TableWays();
        Check.way(x, 0, "A");
        int n = steps.isEmpty() ? 0 : steps.split(" ").length;
        Check.due("way " + text, Check.way(x, 5, text), n);
        Check.due("way " + text, Check.readWay(x, 5), steps);
        Check.due("kind of " + text, x.fault(0), 0);
        Check.due("place of " + text, x.fault(1), TableWays.NONE);
    }

    private static void fault(String text, int kind, int place) {
        TableWays x = new TableWays();
        Check.way(x, 5, "drop 3;");
        Check.due("way " + text, Check.way(x, 5, text), TableWays.NONE);
        Check.due("kind of " + text, x.fault(0), kind);
        Check.due("place of " + text, x.fault(1), place);
        Check.due("the way stays", Check.readWay(x, 5), "2.3.0");
    }

    private static String times(int n, String text) {
        StringBuilder s = new StringBuilder();
        for (int i = 0; i < n; i++) {
            s.append(text);
        }
        return s.toString();
    }

    private static void atMostTwelve() {
        Check.says("Term II", "A WAY is a row of at most 12 STEPS");
        for (int n = 0; n <= 14; n++) {
            TableWays x = new TableWays();
            Check.due(n + " STEPS", Check.way(x, 0, times(n, "head;")), n <= 12 ? n : TableWays.NONE);
            Check.due(n + " STEPS", x.steps(0), n <= 12 ? n : 0);
        }
        Check.says("Term II", "WAYS 0 .. 7");
        TableWays x = new TableWays();
        for (int w = 0; w < 8; w++) {
            Check.due("way " + w, Check.way(x, w, times(w, "head;") + "drop " + w % 6 + ";"), w + 1);
        }
        for (int w = 0; w < 8; w++) {
            Check.due("way " + w, x.steps(w), w + 1);
            Check.due("last of way " + w, x.stepAt(w, w, 1), w % 6);
        }
        Check.due("no way -1", x.steps(-1), TableWays.RANGE);
        Check.due("no way 8", x.steps(8), TableWays.RANGE);
    }

    private static void blanks() {
        Check.says("Term II", "TOKENS with any blanks (32, 10) between");
        reads("", "");
        reads(" ", "");
        reads("\n", "");
        reads(" \n \n\n", "");
        reads("turn;head;", "1.0.0 13.0.0");
        reads("\n turn \n ; \n\nhead\n;\n ", "1.0.0 13.0.0");
        reads("sum01;split2-;repeat2{keep3;}", "11.0.1 3.2.0 12.3.0 12.3.0");
        reads(" sum  0  1  ;  split\n2\n-\n;\nrepeat\n2\n{\nkeep\n3\n;\n}\n", "11.0.1 3.2.0 12.3.0 12.3.0");
        for (int b = 0; b < 256; b++) {
            String one = "" + (char) b;
            if (b == 32 || b == 10) {
                reads("turn" + one + ";" + one, "1.0.0");
            } else {
                fault(one, SYNTAX, 0);
                fault("turn;" + one, SYNTAX, 5);
                fault("turn " + one + ";", SYNTAX, b == ';' ? 6 : 5);
            }
        }
    }

    private static void words() {
        Check.says("Term II", "WORDS (small letters, as many as there are)");
        fault("turnturn;", SYNTAX, 0);
        fault("turnhead;", SYNTAX, 0);
        fault("turns;", SYNTAX, 0);
        fault("tur;", SYNTAX, 0);
        fault("tu rn;", SYNTAX, 0);
        fault("Turn;", SYNTAX, 0);
        fault("tURN;", SYNTAX, 0);
        fault("xturn;", SYNTAX, 0);
        fault("repea 2{}", SYNTAX, 0);
        fault("repeats 2{}", SYNTAX, 0);
        fault("turn;dro 1;", SYNTAX, 5);
        fault("drop a;", SYNTAX, 5);
        fault("repeat two{}", SYNTAX, 7);
        reads("drop1;", "2.1.0");
        for (int number = 1; number <= 15; number++) {
            String word = number == 15 ? "repeat" : Model.WORDS[number];
            for (int i = 0; i < word.length(); i++) {
                String ahead = word.substring(0, i);
                String behind = word.substring(i + 1);
                fault(ahead + (word.charAt(i) == 'q' ? 'r' : 'q') + behind, SYNTAX, 0);
                fault(ahead + Character.toUpperCase(word.charAt(i)) + behind, SYNTAX, 0);
                fault(ahead + word.charAt(i) + word.charAt(i) + behind, SYNTAX, 0);
                fault(ahead + behind, SYNTAX, 0);
            }
        }
        Check.says("Term II", "DIGITS (one)");
        fault("drop 12;", SYNTAX, 6);
        fault("drop 00;", SYNTAX, 6);
        fault("repeat 11{}", SYNTAX, 8);
        fault("split 11-;", SYNTAX, 7);
        reads("sum 12;", "11.1.2");
        fault("sum 123;", SYNTAX, 6);
        Check.says("Term II", "signs { } ; and the MARKS");
        reads("join 0 -;join 0 :;join 0 /;join 0 .;", "5.0.0 5.0.1 5.0.2 5.0.3");
        reads("split 0 -;split 0 :;split 0 /;split 0 .;", "3.0.0 3.0.1 3.0.2 3.0.3");
        for (String sign : new String[] {"(", ")", "[", "]", ",", "?", "+", "_", "\t", "\r", "\u0000", "\u000b", "\u00a0"}) {
            fault("turn;" + sign, SYNTAX, 5);
            fault("split 0 " + sign + ";", SYNTAX, 8);
        }
    }

    private static void grammar() {
        Check.says("Term II", "\"turn\" | \"unfold\" | \"single\" | \"head\"");
        reads("turn;unfold;single;head;", "1.0.0 7.0.0 9.0.0 13.0.0");
        for (String word : new String[] {"turn", "unfold", "single", "head"}) {
            int n = word.length();
            fault(word, SYNTAX, n);
            fault(word + " 0;", SYNTAX, n + 1);
            fault(word + "-;", SYNTAX, n);
            fault(word + "{", SYNTAX, n);
            fault(word + "}", SYNTAX, n);
            fault(word + " " + word + ";", SYNTAX, n + 1);
        }
        Check.says("Term II", "(\"drop\" | \"fill\" | \"fold\" | \"sort\" | \"count\" | \"keep\" | \"swap\") N");
        reads("drop 0;fill 1;fold 2;sort 3;count 4;keep 5;swap 0;", "2.0.0 4.1.0 6.2.0 8.3.0 10.4.0 12.5.0 14.0.0");
        for (String word : new String[] {"drop", "fill", "fold", "sort", "count", "keep", "swap"}) {
            int n = word.length();
            fault(word, SYNTAX, n);
            fault(word + ";", SYNTAX, n);
            fault(word + " -;", SYNTAX, n + 1);
            fault(word + " 1", SYNTAX, n + 2);
            fault(word + " 1 2;", SYNTAX, n + 3);
            fault(word + " 1 -;", SYNTAX, n + 3);
            fault(word + " 1}", SYNTAX, n + 2);
        }
        Check.says("Term II", "(\"split\" | \"join\") N MARK");
        for (String word : new String[] {"split", "join"}) {
            int n = word.length();
            fault(word, SYNTAX, n);
            fault(word + ";", SYNTAX, n);
            fault(word + " -;", SYNTAX, n + 1);
            fault(word + " 1", SYNTAX, n + 2);
            fault(word + " 1;", SYNTAX, n + 2);
            fault(word + " 1 2;", SYNTAX, n + 3);
            fault(word + " 1 -", SYNTAX, n + 4);
            fault(word + " 1 - -;", SYNTAX, n + 5);
            fault(word + " 1 x;", SYNTAX, n + 3);
        }
        Check.says("Term II", "\"sum\" N N");
        reads("sum 0 5;sum 5 0;sum 3 3;", "11.0.5 11.5.0 11.3.3");
        fault("sum", SYNTAX, 3);
        fault("sum;", SYNTAX, 3);
        fault("sum 1", SYNTAX, 5);
        fault("sum 1;", SYNTAX, 5);
        fault("sum 1 -;", SYNTAX, 6);
        fault("sum 1 2", SYNTAX, 7);
        fault("sum 1 2 3;", SYNTAX, 8);
        fault("turn;;", SYNTAX, 5);
    }

    private static void repeats() {
        Check.says("Term II", "\"repeat\" N \"{\" way \"}\"");
        reads("repeat 1 { }", "");
        reads("repeat 2{turn;}", "1.0.0 1.0.0");
        reads("head; repeat 2 {turn; repeat 2 {drop 1;} } head;", "13.0.0 1.0.0 2.1.0 2.1.0 1.0.0 2.1.0 2.1.0 13.0.0");
        reads("repeat 2{repeat 2{repeat 2{turn;}}}repeat 1{}", times(7, "1.0.0 ") + "1.0.0");
        reads("repeat 3{}turn;", "1.0.0");
        reads("repeat 2{turn;}repeat 2{head;}", "1.0.0 1.0.0 13.0.0 13.0.0");
        reads("repeat 2{head;repeat 3{sum 4 5;}}", "13.0.0 11.4.5 11.4.5 11.4.5 13.0.0 11.4.5 11.4.5 11.4.5");
        fault("repeat", SYNTAX, 6);
        fault("repeat {", SYNTAX, 7);
        fault("repeat 2", SYNTAX, 8);
        fault("repeat 2;", SYNTAX, 8);
        fault("repeat 2 turn;", SYNTAX, 9);
        fault("repeat 2 {", SYNTAX, 10);
        fault("repeat 2 {turn;", SYNTAX, 15);
        fault("repeat 2 {turn}", SYNTAX, 14);
        fault("repeat 2 {;}", SYNTAX, 10);
        fault("repeat 2 {{", SYNTAX, 10);
        fault("repeat 2 {turn;} }", SYNTAX, 17);
        fault("repeat 2 {} ;", SYNTAX, 12);
        fault("repeat 2 {repeat 2 {}", SYNTAX, 21);
        fault("repeat -{}", SYNTAX, 7);
        fault("}", SYNTAX, 0);
        fault("{", SYNTAX, 0);
        fault("{turn;}", SYNTAX, 0);
    }

    private static void bounds() {
        Check.says("Term II", "N is a digit 0 .. 5");
        for (int n = 0; n <= 9; n++) {
            String[] words = {"drop", "fill", "fold", "sort", "count", "keep", "swap"};
            int[] numbers = {2, 4, 6, 8, 10, 12, 14};
            for (int i = 0; i < words.length; i++) {
                bound(words[i] + " " + n + ";", n <= 5, numbers[i] + "." + n + ".0", words[i].length() + 1);
            }
            bound("split " + n + " :;", n <= 5, "3." + n + ".1", 6);
            bound("join " + n + " /;", n <= 5, "5." + n + ".2", 5);
            bound("sum " + n + " 0;", n <= 5, "11." + n + ".0", 4);
            bound("sum 0 " + n + ";", n <= 5, "11.0." + n, 6);
        }
        Check.says("Term II", "(of repeat 1 .. 6: so often)");
        for (int n = 0; n <= 9; n++) {
            boolean can = n >= 1 && n <= 6;
            bound("repeat " + n + "{head;}", can, times(n, "13.0.0 ").trim(), 7);
        }
    }

    private static void bound(String text, boolean can, String steps, int place) {
        if (can) {
            reads(text, steps);
        } else {
            fault(text, NUMBER, place);
        }
    }

    private static void places() {
        Check.says("Term II", "PLACE (a TOKEN's first byte; the text's length at its end)");
        fault("  \n  heads;", SYNTAX, 5);
        fault("turn;  abc", SYNTAX, 7);
        fault("drop", SYNTAX, 4);
        fault("drop   ", SYNTAX, 7);
        fault("drop 1 \n", SYNTAX, 8);
        fault(" drop  6 ;", NUMBER, 7);
        fault(times(12, "turn;") + "\n\n swap 0;", ROOM, 63);
        fault("repeat 6{turn;turn;turn; \n }", ROOM, 27);
        fault("repeat 1{repeat 1{repeat 1{repeat 1 \n {}}}}", ROOM, 38);
        String longest = times(49, "                    ") + "                turn";
        fault(longest, SYNTAX, 1000);
        Check.says("Term II", "the first come to as TOKENS are read one by one");
        fault("drop 6 7;", NUMBER, 5);
        fault("drop 9", NUMBER, 5);
        fault("drop x 9;", SYNTAX, 5);
        fault("sum 6 6;", NUMBER, 4);
        fault("repeat 0 turn;", NUMBER, 7);
        fault("repeat 6{turn;turn;turn;} head", ROOM, 24);
        fault(TWELVE + "turn 9", ROOM, 20);
        fault("turn;?" + TWELVE + "turn;", SYNTAX, 5);
    }

    private static void leastKind() {
        Check.says("Term II", "of one TOKEN the least KIND");
        fault(TWELVE + "turns;", SYNTAX, 20);
        fault(TWELVE + "repeat 1{x", SYNTAX, 29);
        fault("turn 9;", SYNTAX, 5);
        fault("drop 1 9;", SYNTAX, 7);
        fault("repeat 1{repeat 1{repeat 1{{", SYNTAX, 27);
        fault("repeat 1{repeat 1{repeat 1{turn{", SYNTAX, 31);
        fault("repeat 6{turn;turn;turn}", SYNTAX, 23);
        fault("repeat 6{turn;turn;turn;drop 1}", SYNTAX, 30);
        fault("repeat 6{turn;turn;turn;", SYNTAX, 24);
        fault(TWELVE + "turn", ROOM, 20);
        fault(times(11, "turn;") + "turn swap 0;", SYNTAX, 60);
    }

    private static void roomOfBraces() {
        Check.says("Term II", "3 ROOM: a { within 3 others");
        reads("repeat 1{repeat 1{repeat 1{turn;}}}", "1.0.0");
        reads("repeat 1{repeat 1{repeat 1{}repeat 1{turn;}}}", "1.0.0");
        reads(times(5, "repeat 1{repeat 1{repeat 1{}}}") + "turn;", "1.0.0");
        fault("repeat 1{repeat 1{repeat 1{repeat 1{}}}}", ROOM, 35);
        fault("repeat 1{repeat 1{repeat 1{}repeat 1{repeat 1{", ROOM, 45);
        fault("repeat 1{repeat 1{repeat 1{repeat 1 {{", ROOM, 36);
    }

    private static void roomOfSteps() {
        Check.says("Term II", "the 13th STEP: at its WORD");
        reads(times(12, "turn;"), times(11, "1.0.0 ") + "1.0.0");
        fault(times(13, "turn;"), ROOM, 60);
        reads(TWELVE, times(11, "1.0.0 ") + "1.0.0");
        fault(TWELVE + "turn;", ROOM, 20);
        fault(TWELVE + "drop 9;", ROOM, 20);
        reads(TWELVE + "repeat 6{repeat 6{}}", times(11, "1.0.0 ") + "1.0.0");
        fault(TWELVE + "repeat 2{head", ROOM, 29);
        reads("repeat 1{" + times(12, "turn;") + "}", times(11, "1.0.0 ") + "1.0.0");
        fault("repeat 1{" + times(13, "turn;") + "}", ROOM, 69);
        fault("repeat 6{" + times(13, "turn;") + "}", ROOM, 69);
        fault("repeat 6{turn;}repeat 6{turn;}head;", ROOM, 30);
        Check.says("Term II", "at the } of a repeat, if with it there are more than 12 (as told so far, and so often)");
        reads("repeat 3{turn;turn;turn;turn;}", times(11, "1.0.0 ") + "1.0.0");
        fault("repeat 3{turn;turn;turn;turn;turn;}", ROOM, 34);
        fault("repeat 5{turn;turn;turn;}", ROOM, 24);
        fault("repeat 2{" + times(12, "turn;") + "}", ROOM, 69);
        fault("turn;" + TWELVE, ROOM, 24);
        reads("turn;turn;repeat 5{turn;turn;}", times(11, "1.0.0 ") + "1.0.0");
        // what stands ahead in an open repeat is told once so far
        fault("repeat 2{turn;" + TWELVE + "}", ROOM, 33);
        reads("repeat 1{turn;turn;repeat 5{turn;turn;}}", times(11, "1.0.0 ") + "1.0.0");
        fault("repeat 2{turn;turn;repeat 5{turn;turn;}}", ROOM, 39);
        fault("repeat 2{turn;repeat 3{turn;turn;}}", ROOM, 34);
        reads("repeat 2{repeat 3{turn;turn;}}", times(11, "1.0.0 ") + "1.0.0");
        fault("repeat 3{repeat 3{repeat 2{turn;}}}", ROOM, 34);
        fault("repeat 2{repeat 4{repeat 4{turn;}}}", ROOM, 33);
    }

    private static void sameWord() {
        Check.says("Term II", "1 SYNTAX: a TOKEN (or byte that is none, another WORD) with which no way goes on");
        for (String word : new String[] {"a", "sumx", "counts", "swaps", "heads", "unfol", "nfold", "singl", "repeat2x", "zzzz"}) {
            fault(word + ";", SYNTAX, word.equals("repeat2x") ? 7 : 0);
        }
        for (String sign : new String[] {"-", ":", "/", ".", "0", "5", "9", "{", "}", ";"}) {
            fault(sign, SYNTAX, 0);
            fault("head;" + sign, SYNTAX, 5);
        }
    }

    public static void main(String[] args) {
        atMostTwelve();
        blanks();
        words();
        grammar();
        repeats();
        bounds();
        places();
        leastKind();
        roomOfBraces();
        roomOfSteps();
        sameWord();
        Check.end();
    }
}
