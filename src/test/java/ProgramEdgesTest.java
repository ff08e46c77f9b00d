import java.util.Map;

/** The edges that the document's Terms name in their second part: words, STEPS, FAULTS, JUDGED. */
public final class ProgramEdgesTest {
    private static final Edges EDGES = new Edges("ProgramEdgesTest");

    public static void main(String[] args) {
        lines();
        words();
        literalWords();
        stepLimit();
        numbers();
        literalSigns();
        literalLimits();
        names();
        sortsOfWords();
        counts();
        shapes();
        faults();
        judgedNames();
        judgedRanges();
        given();
        EDGES.end();
    }

    private static void lines() {
        EDGES.says("LINES, each up to the next byte 10 (or the end; behind a last 10 there is none)");
        EDGES.compiles(0, "");
        EDGES.compiles(0, "\n");
        EDGES.compiles(1, "mark 1");
        EDGES.compiles(1, "mark 1\n");
        EDGES.compiles(2, "mark 1\nmark 2");
        EDGES.fault("mark ^1\rmark 2");
        EDGES.says("A line without words means nothing");
        EDGES.compiles(0, "   ");
        EDGES.compiles(0, " \n\n  \n");
        EDGES.compiles(1, "\n\nmark 1\n\n");
        EDGES.compiles(60, "\n".repeat(300) + "mark 1\n  \n".repeat(60) + "\n".repeat(300));
    }

    private static void words() {
        EDGES.says("WORDS stand between blanks (32)");
        EDGES.compiles(1, "mark 1");
        EDGES.compiles(1, "   mark    1   ");
        EDGES.fault("^mark1");
        for (int other : new int[] {0, 9, 11, 12, 13, 31, 33, 127, 160, 255}) {
            EDGES.fault("^mark" + (char) other + "1");
            EDGES.fault("mark ^1" + (char) other);
            EDGES.fault("^" + (char) other + "mark 1");
        }
    }

    private static void literalWords() {
        EDGES.says("a LITERAL is a word from a \" on to the \" that ends it, whatever stands between");
        EDGES.compiles(1, "set v0 \" a  b \"");
        EDGES.compiles(1, "set v0 \"\\\" \\\"\"");
        EDGES.compiles(1, "set v0 \"mark 1\"");
        EDGES.due("its units", Tapes.text(EDGES.fine("set v0 \" a  b \""), 0), " a  b ");
        EDGES.fault("set v0 ^\"");
        EDGES.fault("set v0 ^\"a");
        EDGES.fault("set v0 ^\"a\\\"");
        EDGES.fault("set v0 ^\"a\nb\"");
        EDGES.fault("set v0 ^a\"b\"");
        EDGES.says("behind that there is a blank or the line's end");
        EDGES.compiles(1, "set v0 \"a\"");
        EDGES.compiles(1, "set v0 \"a\" ");
        EDGES.compiles(2, "set v0 \"a\"\nset v1 \"b\"");
        EDGES.fault("set v0 ^\"a\"b");
        EDGES.fault("set v0 ^\"a\"\\");
        EDGES.fault("set v0 ^\"\"\"");
        EDGES.fault("join v0 ^\"a\"\"b\"");
        EDGES.fault("set v0 ^\"a\"\t");
    }

    private static void stepLimit() {
        EDGES.says("each other one is a STEP, 60 at most");
        EDGES.compiles(59, "mark 1\n".repeat(59));
        EDGES.compiles(60, "mark 1\n".repeat(60));
        TextLessons x = EDGES.fine("join v0 1 2 3 4 5 6 7 8\n".repeat(59) + "join v1 8 7 6 5 4 3 2 1");
        EDGES.due("the last of 60 with all words that a STEP may have", Tapes.spelled(x, 59), "join v1 8 7 6 5 4 3 2 1");
        EDGES.due("its units", Tapes.text(x, 1), "87654321");
        EDGES.says("the 61st STEP's NAME): at its first byte");
        EDGES.fault("mark 1\n".repeat(60) + "^mark 1");
        EDGES.fault("mark 1\n".repeat(60) + "  ^mark");
        EDGES.fault("mark 1\n".repeat(60) + "\n ^mork 1");
        EDGES.fault("mark 1\n".repeat(60) + "^\"\"");
        EDGES.fault("mark 1\n".repeat(59) + "mark^");
        EDGES.fault("mark w0\n" + "mark 1\n".repeat(59) + "^mark 1");
    }

    private static void numbers() {
        EDGES.says("NUMBER: [-] digits, within 64 bits.");
        for (String right : new String[] {"0", "9", "-0", "-9", "007", "-007", "9223372036854775807", "-9223372036854775808",
            "00000000000000000000000000000009223372036854775807", "-000000000000000000000009223372036854775808",
            "0".repeat(500)}) {
            EDGES.compiles(1, "mark " + right);
        }
        EDGES.due("the greatest", EDGES.fine("mark 9223372036854775807").mark(0), Long.MAX_VALUE);
        EDGES.due("the least", EDGES.fine("mark -9223372036854775808").mark(0), Long.MIN_VALUE);
        EDGES.due("with 0s ahead", EDGES.fine("mark -" + "0".repeat(300) + "12").mark(0), -12);
        for (String wrong : new String[] {"9223372036854775808", "-9223372036854775809", "18446744073709551616", "-",
            "--1", "+1", "1-", "1+", "- ", "1.0", "1e3", "0x1", "1a", ":", "/", "-:", "-/", "99999999999999999999999999999"}) {
            EDGES.fault("mark ^" + wrong);
        }
    }

    private static void literalSigns() {
        EDGES.says("a byte 32 .. 126 but \" and \\ is itself");
        for (int b = 0; b < 256; b++) {
            if (b == '"' || b == '\\' || b == '^') {
                continue;
            }
            if (b >= 32 && b <= 126) {
                EDGES.due("unit of byte " + b, EDGES.fine("set v0 \"" + (char) b + "\"").unit(0, 0), b);
            } else {
                EDGES.fault("set v0 ^\"" + (char) b + "\"");
            }
        }
        EDGES.due("unit of byte 94", EDGES.fine("set v0 \"^\"").unit(0, 0), 94);
        EDGES.says("\\\" \\\\ are the latter, \\n 10, \\t 9");
        EDGES.due("units", Tapes.text(EDGES.fine("set v0 \"\\\"\\\\\\n\\t\""), 0), "\"\\\n\t");
        for (char other : "abfrvxN TU'0/".toCharArray()) {
            EDGES.fault("set v0 ^\"\\" + other + "\"");
        }
        EDGES.fault("set v0 ^\"\\");
        EDGES.fault("set v0 ^\"\\\nn\"");
        EDGES.says("backslash u and four of 0 .. 9 a .. f A .. F the unit of that number (base 16)");
        EDGES.due("units", Tapes.text(EDGES.fine("set v0 \"\\u0000\\u0009\\u9999\\uabcf\\uABCF\\uffff\\uFfFf\""), 0),
            "\u0000\t\u9999\uabcf\uabcf\uffff\uffff");
        EDGES.due("a fifth one is itself", Tapes.text(EDGES.fine("set v0 \"\\u00412\""), 0), "A2");
        for (char other : "/:`g@G -+\"\\".toCharArray()) {
            EDGES.fault("set v0 ^\"\\u" + other + "000\"");
            EDGES.fault("set v0 ^\"\\u000" + other + "\"");
        }
        EDGES.fault("set v0 ^\"\\u");
        EDGES.fault("set v0 ^\"\\u000");
        EDGES.fault("set v0 ^\"\\u\"");
        EDGES.fault("set v0 ^\"\\u041\"");
        EDGES.fault("set v0 ^\"\\u004\n1\"");
    }

    /** STEPS with so many unlike LITERALS, from the unit 1 on. */
    private static String unlike(int count) {
        StringBuilder lines = new StringBuilder();
        for (int i = 1; i <= count; i++) {
            lines.append(String.format("set v0 \"\\u%04x\"\n", i));
        }
        return lines.toString();
    }

    private static void literalLimits() {
        EDGES.says("400 units at most");
        EDGES.compiles(1, "set v0 \"" + "x".repeat(400) + "\"");
        EDGES.compiles(1, "set v0 \"" + "\\u0041".repeat(400) + "\"");
        EDGES.compiles(1, "set v0 \"" + "\\\"".repeat(400) + "\"");
        EDGES.fault("set v0 ^\"" + "x".repeat(401) + "\"");
        EDGES.fault("set v0 ^\"" + "\\u0041".repeat(401) + "\"");
        EDGES.fault("set v0 ^\"" + "\\n".repeat(401) + "\"");
        EDGES.fault("set v0 ^\"" + "x".repeat(1500) + "\"");
        EDGES.due("all units", EDGES.fine("set v0 \"" + "x".repeat(399) + "y\"").unit(0, 399), 'y');
        EDGES.says("24 unlike ones at most in a program");
        EDGES.compiles(24, unlike(24));
        EDGES.due("all are in the POOL", EDGES.fine(unlike(24)).pool(), 25);
        EDGES.says("a 25th unlike LITERAL");
        EDGES.fault(unlike(24) + "set v0 ^\"x\"");
        EDGES.fault(unlike(24) + "set v0 ^\"\"");
        EDGES.fault("set v0 \"\"\n" + unlike(23) + "set v0 ^\"x\"");
        EDGES.fault(unlike(23) + "join v0 \"x\" \"x\" ^\"y\" \"z\"");
        EDGES.compiles(26, unlike(24) + "set v0 \"\\u0001\"\njoin v0 \"\\u0018\" \"\\n\"");
        EDGES.compiles(25, unlike(12) + "set v0 \"\"\n" + unlike(12));
    }

    private static void names() {
        EDGES.says("v is v0 .. v19 (a text)");
        EDGES.compiles(2, "null v0\nnull v19");
        for (String wrong : new String[] {"v20", "v99", "v-1", "v", "v100", "V0", "vv0", "v0v", "v:", "v/"}) {
            EDGES.fault("null ^" + wrong);
        }
        EDGES.says("b is b0 .. b5 (a builder)");
        EDGES.compiles(2, "fresh b0 1\nfresh b5 1");
        for (String wrong : new String[] {"b6", "b10", "b-1", "b", "B0", "b:"}) {
            EDGES.fault("fresh ^" + wrong + " 1");
        }
        EDGES.says("w is w0 .. w11 (a whole)");
        EDGES.compiles(2, "pieces w0\npieces w11");
        for (String wrong : new String[] {"w12", "w19", "w20", "w-1", "w", "W0", "w1x"}) {
            EDGES.fault("pieces ^" + wrong);
        }
        EDGES.says("as digits stand here (no 0 ahead)");
        for (String wrong : new String[] {"v00", "v01", "v09", "v010", "v019"}) {
            EDGES.fault("null ^" + wrong);
        }
        EDGES.fault("fresh ^b00 1");
        EDGES.fault("fresh ^b05 1");
        EDGES.fault("pieces ^w00");
        EDGES.fault("pieces ^w011");
        EDGES.fault("null v0\nset v1 ^v00");
        EDGES.fault("pieces w1\nmark ^w01");
        EDGES.fault("pieces w1\njoin v0 ^@w01");
    }

    private static final String GIVEN = "set v1 \"\"\nplus w1 1 1\nfresh b1 1\n";
    private static final Map<String, String[]> RIGHT = Map.of(
        "v", new String[] {"v1", "v0", "v19"},
        "b", new String[] {"b1"},
        "w", new String[] {"w1", "w0", "w11"},
        "T", new String[] {"v1", "\"\"", "\"a b\""},
        "W", new String[] {"w1", "0", "-1"},
        "X", new String[] {"v1", "\"a b\"", "w1", "7", "-7", "b1", "@w1", "@7", "@-7", "?w1", "?7", "?-7"},
        "N", new String[] {"0", "00"});
    private static final Map<String, String[]> WRONG = Map.of(
        "v", new String[] {"w1", "b1", "0", "\"\"", "@1", "?1", "x", "v20", "mark"},
        "b", new String[] {"v1", "w1", "0", "\"\"", "@1", "?1", "x", "b6", "mark"},
        "w", new String[] {"v1", "b1", "0", "\"\"", "@1", "?1", "x", "w12", "mark"},
        "T", new String[] {"w1", "b1", "0", "@1", "?1", "x", "v20", "mark", "\"", "\"a", "\"\\x\"", "\"a\"b"},
        "W", new String[] {"v1", "b1", "\"\"", "@1", "?1", "@w1", "x", "w12", "mark", "+1", "-", "9223372036854775808"},
        "X", new String[] {"v20", "w12", "b6", "x", "mark", "+1", "-", "@", "?", "@v1", "@b1", "?v1", "?b1", "@\"a\"", "?\"\"",
            "@@1", "@?1", "?@1", "@+1", "?-", "@w12", "\"", "\"a"},
        "N", new String[] {"100", "000", "-0", "-1", "+1", "w1", "v1", "b1", "\"0\"", "@0", "?0", "x"});

    private static String letter(String[] shape, int i) {
        return shape[Math.min(i, shape.length - 1)].replaceAll("[{}]", "");
    }

    /** How many words a STEP has at least, and at most. */
    private static int least(String[] shape) {
        return shape[shape.length - 1].startsWith("{") ? shape.length - 1 : shape.length;
    }

    private static int most(String[] shape) {
        return shape[shape.length - 1].startsWith("{") ? 9 : shape.length;
    }

    /** A line of a sort with so many words, of which one is given. */
    private static String line(int sort, int count, int which, String word) {
        StringBuilder line = new StringBuilder(Model.NAMES.get(sort));
        for (int i = 0; i < count; i++) {
            line.append(' ').append(i == which ? word : RIGHT.get(letter(Model.SHAPES.get(sort), i))[0]);
        }
        return line.toString();
    }

    private static void sortsOfWords() {
        EDGES.says("T: a v or a LITERAL. W: a w or a NUMBER. X: a T, a W, a b, or @ and a W right behind it, or ? and a W.");
        for (int sort = 0; sort < 56; sort++) {
            String[] shape = Model.SHAPES.get(sort);
            for (int i = 0; i < most(shape); i++) {
                for (String right : RIGHT.get(letter(shape, i))) {
                    EDGES.compiles(4, GIVEN + line(sort, Math.max(i + 1, least(shape)), i, right));
                }
            }
        }
        EDGES.fault("join v0 ^@ 1");
        EDGES.fault("join v0 ^? 1");
        EDGES.says("a word that is not so (a NAME that is none, another sort,");
        for (int sort = 0; sort < 56; sort++) {
            String[] shape = Model.SHAPES.get(sort);
            for (int i = 0; i < most(shape); i++) {
                for (String wrong : WRONG.get(letter(shape, i))) {
                    EDGES.fault(GIVEN + line(sort, Math.max(i + 1, least(shape)), i, "^" + wrong));
                }
            }
            String name = Model.NAMES.get(sort);
            EDGES.fault("^" + name.toUpperCase(java.util.Locale.ROOT) + " v0");
            EDGES.fault("^" + name + "x v0");
            EDGES.fault("^" + name.substring(1) + " v0");
            EDGES.fault("^x" + name.substring(1) + " v0");
            EDGES.fault("^\"" + name + "\" v0");
        }
        EDGES.fault("^mar 1");
        EDGES.fault("^i 1 0");
        EDGES.fault("^piecess w0");
    }

    private static void counts() {
        EDGES.says("N: digits, two at most: 0 .. 99.");
        EDGES.compiles(1, "if 1 0");
        EDGES.compiles(1, "if 1 00");
        EDGES.compiles(2, "if 1 01\nmark 1");
        EDGES.compiles(60, "if 1 59\n" + "mark 1\n".repeat(59));
        // What is no N is a FAULT before anything is JUDGED; 99 is an N, whose RANGE is too long.
        EDGES.fault("mark ^w0\nif 1 99");
        EDGES.fault("mark w0\nif 1 ^100");
        EDGES.fault("mark w0\nif 1 ^000");
        EDGES.fault("mark w0\nif 1 ^-0");
        EDGES.fault("mark w0\nif 1 ^-1");
        EDGES.fault("mark w0\ncatch w1 ^100");
        EDGES.fault("mark ^w0\ncatch w1 99");
        EDGES.fault("if 1 ^99");
        EDGES.fault("if 1^");
        EDGES.fault("catch w0^");
    }

    private static void shapes() {
        EDGES.says("join v X {X} (eight X at most)");
        EDGES.compiles(1, "join v0 1");
        EDGES.compiles(1, "join v0 1 2 3 4 5 6 7 8");
        EDGES.fault("join v0^");
        EDGES.fault("join v0 1 2 3 4 5 6 7 8 ^9");
        EDGES.says("from v W {W} (eight W at most)");
        EDGES.compiles(1, "from v0 1");
        EDGES.compiles(1, "from v0 1 2 3 4 5 6 7 8");
        EDGES.fault("from v0^");
        EDGES.fault("from v0 1 2 3 4 5 6 7 8 ^9");
        EDGES.says("too many, a LITERAL that is not so or too long, a 25th unlike LITERAL");
        for (int sort = 0; sort < 56; sort++) {
            int most = most(Model.SHAPES.get(sort));
            for (String extra : new String[] {"0", "v1", "\"\"", "\"", "x", "mark"}) {
                EDGES.fault(GIVEN + line(sort, most, -1, "") + " ^" + extra);
                EDGES.fault(GIVEN + line(sort, most, -1, "") + "  ^" + extra + " 1\nmork");
            }
        }
        EDGES.says("a word that lacks: at the byte 10 that ends the line, or the TAPE's end.");
        for (int sort = 0; sort < 56; sort++) {
            for (int count = 0; count < least(Model.SHAPES.get(sort)); count++) {
                EDGES.fault(GIVEN + line(sort, count, -1, "") + "^");
                EDGES.fault(GIVEN + line(sort, count, -1, "") + "  ^");
                EDGES.fault(GIVEN + line(sort, count, -1, "") + "^\nmark 1");
                EDGES.fault(GIVEN + line(sort, count, -1, "") + "   ^\n");
            }
        }
        TextLessons x = new TextLessons();
        EDGES.due("the end of a TAPE of 3000", Tapes.feed(x, " ".repeat(2996) + "mark"), 3000);
        EDGES.due("the FAULT there", x.compile(), -3001);
    }

    private static void faults() {
        EDGES.says("FAULTS, the first along the TAPE");
        EDGES.fault("^mork 1\nmork 1");
        EDGES.fault("mark^\nmork 1");
        EDGES.fault("mark 1 ^2\nmark");
        EDGES.fault("plus ^x y z");
        EDGES.fault("plus w0 ^x");
        EDGES.fault("plus w0 1^\nplus w0 1 2 3");
        EDGES.says("If there are none, JUDGED, in order of the words, the first one is the FAULT, at its first byte");
        EDGES.fault("mark w0\n^mork");
        EDGES.fault("mark w0\nmark^");
        EDGES.fault("mark ^w0\nmark w1");
        EDGES.fault("plus w0 ^w1 w2");
        EDGES.fault("plus w0 1 ^w2");
        EDGES.fault("if ^w0 9");
        EDGES.fault("if 1 ^9\nmark w0");
        EDGES.fault("if 1 1\nmark ^w0\nif 1 9");
        EDGES.fault("join v0 1   ^@w0 ?w1");
    }

    private static void judgedNames() {
        EDGES.says("a v, w or b that is used (by T, W, X, or the b of a STEP, but of fresh and open) and not GIVEN");
        Map<String, String[]> used = Map.of("T", new String[] {"v2"}, "W", new String[] {"w2"}, "b", new String[] {"b2"},
            "X", new String[] {"v2", "w2", "b2", "@w2", "?w2"});
        for (int sort = 0; sort < 56; sort++) {
            String[] shape = Model.SHAPES.get(sort);
            boolean makes = Model.NAMES.get(sort).equals("fresh") || Model.NAMES.get(sort).equals("open");
            for (int i = 0; i < most(shape); i++) {
                for (String word : used.getOrDefault(letter(shape, i), new String[0])) {
                    int count = Math.max(i + 1, least(shape));
                    if (makes && i == 0) {
                        EDGES.compiles(4, GIVEN + line(sort, count, i, word));
                    } else {
                        EDGES.fault(GIVEN + line(sort, count, i, "^" + word));
                    }
                }
            }
        }
        EDGES.says("GIVEN is what STEPS before it give (their first word: v, w, or b of fresh and open)");
        for (int sort = 0; sort < 53; sort++) {
            String[] shape = Model.SHAPES.get(sort);
            boolean makes = Model.NAMES.get(sort).equals("fresh") || Model.NAMES.get(sort).equals("open");
            if (shape[0].equals("v")) {
                EDGES.compiles(5, GIVEN + line(sort, least(shape), 0, "v2") + "\nset v3 v2");
                EDGES.fault(GIVEN + line(sort, least(shape), 0, "v2") + "\nset v3 ^v4");
            } else if (shape[0].equals("w")) {
                EDGES.compiles(5, GIVEN + line(sort, least(shape), 0, "w2") + "\nmark w2");
                EDGES.fault(GIVEN + line(sort, least(shape), 0, "w2") + "\nmark ^w3");
            } else if (makes) {
                EDGES.compiles(5, GIVEN + line(sort, least(shape), 0, "b2") + "\nturn b2");
                EDGES.fault(GIVEN + line(sort, least(shape), 0, "b2") + "\nturn ^b3");
            }
        }
        String[] names = new String[38];
        for (int i = 0; i < 38; i++) {
            names[i] = i < 20 ? "v" + i : i < 32 ? "w" + (i - 20) : "b" + (i - 32);
        }
        for (String gift : names) {
            String gives = gift.startsWith("v") ? "null " + gift : gift.startsWith("w") ? "pieces " + gift : "fresh " + gift + " 1";
            for (String name : names) {
                if (name.equals(gift)) {
                    EDGES.compiles(2, gives + "\njoin v0 " + name);
                } else {
                    EDGES.fault(gives + "\njoin v0 ^" + name);
                }
            }
        }
        // A STEP does not give to itself, nor to one before it.
        EDGES.fault("set v0 ^v0");
        EDGES.fault("plus w0 ^w0 1");
        EDGES.fault("mark ^w0\nplus w0 1 1");
        EDGES.compiles(2, "null v0\nlength w0 v0");
    }

    private static void judgedRanges() {
        EDGES.says("an N with which a RANGE would go beyond the end of the one that it stands in, or the program's.");
        for (String opens : new String[] {"if 1 ", "catch w0 "}) {
            EDGES.compiles(1, opens + "0");
            EDGES.fault(opens + "^1");
            EDGES.compiles(3, opens + "2\nmark 1\nmark 2");
            EDGES.fault(opens + "^3\nmark 1\nmark 2");
            EDGES.compiles(3, "mark 1\n" + opens + "1\nmark 2");
            EDGES.fault("mark 1\n" + opens + "^2\nmark 2");
            // Within another RANGE its end counts, though the program goes on.
            EDGES.compiles(4, "if 1 2\n" + opens + "1\nmark 1\nmark 2");
            EDGES.fault("if 1 2\n" + opens + "^2\nmark 1\nmark 2");
            EDGES.compiles(4, "if 1 2\nmark 1\n" + opens + "0\nmark 2");
            EDGES.fault("if 1 2\nmark 1\n" + opens + "^1\nmark 2");
            EDGES.compiles(4, "catch w1 1\n" + opens + "0\nmark 1\nmark 2");
            EDGES.fault("catch w1 1\n" + opens + "^1\nmark 1\nmark 2");
            // Behind it, the one around it counts again.
            EDGES.compiles(5, "if 1 1\nmark 1\n" + opens + "2\nmark 2\nmark 3");
            EDGES.compiles(5, "if 1 4\nif 1 1\nmark 1\n" + opens + "1\nmark 2");
            EDGES.fault("if 1 3\nif 1 1\nmark 1\n" + opens + "^1\nmark 2");
            EDGES.compiles(3, "if 1 0\n" + opens + "1\nmark 1");
        }
        StringBuilder nested = new StringBuilder();
        for (int n = 59; n > 0; n--) {
            nested.append("if 1 ").append(n).append('\n');
        }
        EDGES.compiles(60, nested + "mark 1");
        EDGES.fault(nested + "if 1 ^1");
    }

    private static void given() {
        EDGES.says("but what STEPS of a RANGE give is not GIVEN behind it");
        for (String opens : new String[] {"if 1 ", "catch w9 "}) {
            EDGES.compiles(3, opens + "2\nset v0 \"\"\nset v1 v0");
            EDGES.fault(opens + "1\nset v0 \"\"\nset v1 ^v0");
            EDGES.fault(opens + "1\nplus w0 1 1\nmark ^w0");
            EDGES.fault(opens + "1\nfresh b0 1\nturn ^b0");
            EDGES.fault(opens + "1\nopen b0 \"\"\nturn ^b0");
            EDGES.compiles(4, "set v0 \"\"\n" + opens + "1\nset v0 \"\"\nset v1 v0");
            EDGES.compiles(4, opens + "1\nset v0 \"\"\nset v0 \"\"\nset v1 v0");
            EDGES.fault(opens + "3\nif 1 1\nset v0 \"\"\nset v1 ^v0");
            EDGES.fault(opens + "2\nif 1 1\nset v0 \"\"\nset v1 ^v0");
            EDGES.compiles(5, opens + "4\nset v0 \"\"\nif 1 1\nset v1 v0\nset v1 v0");
            EDGES.fault(opens + "2\nset v0 \"\"\nset v0 v0\nset v1 ^v0");
        }
        EDGES.says("a catch gives its w behind its RANGE alone");
        EDGES.compiles(3, "catch w0 1\nmark 1\nmark w0");
        EDGES.compiles(2, "catch w0 0\nmark w0");
        EDGES.fault("catch w0 1\nmark ^w0");
        EDGES.fault("catch w0 2\nmark 1\nmark ^w0\nmark w0");
        EDGES.compiles(3, "plus w0 1 1\ncatch w0 1\nmark w0");
        EDGES.compiles(4, "catch w0 2\nplus w0 1 1\nmark w0\nmark w0");
        EDGES.fault("catch w1 2\ncatch w0 1\nmark 1\nmark ^w0");
        EDGES.compiles(4, "catch w1 3\ncatch w0 1\nmark 1\nmark w0");
        EDGES.compiles(4, "catch w1 2\ncatch w0 1\nmark 1\nmark w1");
        EDGES.fault("if 1 1\ncatch w0 0\nmark ^w0");
    }
}
