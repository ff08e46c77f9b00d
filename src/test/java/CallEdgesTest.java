/** The edges that promises 1 to 24 name: wrong numbers, nothing there yet, full, refused calls. */
public final class CallEdgesTest {
    private static final Edges EDGES = new Edges("CallEdgesTest");
    private static final int LEAST = Integer.MIN_VALUE;
    private static final int GREATEST = Integer.MAX_VALUE;
    private static final int BLANKS = 0x20202020;

    public static void main(String[] args) {
        newObject();
        feed();
        cut();
        compile();
        compileAgain();
        compileWithFault();
        run();
        ended();
        done();
        step();
        spelled();
        spelledLiterals();
        shrinkRefused();
        shrink();
        shrinkRanges();
        shrinkWords();
        shrinkJudges();
        texts();
        same();
        pool();
        wholes();
        builders();
        parts();
        marks();
        lastCall();
        EDGES.end();
    }

    private static void newObject() {
        EDGES.says("An empty TAPE, no program; all as at the beginning of a run without LITERALS.");
        TextLessons x = new TextLessons();
        EDGES.due("TAPE", x.cut(0), 0);
        EDGES.due("program", x.run(), TextLessons.NO);
        EDGES.due("STEP", x.step(0, 0), -1);
        EDGES.due("spelled", x.spelled(0, 0), -1);
        EDGES.due("course", Tapes.course(x), Tapes.course(EDGES.fine("")));
        EDGES.due("state", Tapes.state(x), Tapes.state(EDGES.fine("")));
        EDGES.due("POOL", x.pool(), 1);
        for (int v = 0; v < 20; v++) {
            EDGES.due("text " + v, x.length(v), -1);
        }
        TextLessons other = EDGES.fine("set v0 \"a\"", "mark 1");
        EDGES.due("objects have nothing in common", new TextLessons().marks() + other.marks(), 1);
        EDGES.says("`NONE = -1`: None.");
        EDGES.due("NONE", TextLessons.NONE, -1);
        EDGES.says("`NO = -2`: There is no program.");
        EDGES.due("NO", TextLessons.NO, -2);
    }

    private static int feedBlanks(TextLessons x) {
        return x.feed(BLANKS, BLANKS, BLANKS, BLANKS, BLANKS);
    }

    private static void feed() {
        EDGES.says("Twenty bytes come behind the TAPE, the highest of each int first: how many it has.");
        TextLessons x = new TextLessons();
        EDGES.due("20", x.feed(0x6d61726b, 0x20313233, 0x20202020, 0x20202020, 0x2020200a), 20);
        EDGES.due("40", x.feed(0x6d61726b, 0x202d3820, 0x20202020, 0x20202020, 0x20202020), 40);
        EDGES.due("STEPS", x.compile(), 2);
        EDGES.due("their bytes", Tapes.allSpelled(x), "mark 123/mark -8");
        EDGES.due("int by int", x.feed(0x63617463, 0x68207731, 0x20300a6d, 0x61726b20, 0x77310a20), 20);
        EDGES.due("STEPS", x.compile(), 2);
        EDGES.due("their bytes", Tapes.allSpelled(x), "catch w1 0/mark w1");
        EDGES.due("bytes above 127", x.feed(-1, -1, -1, -1, -1), 20);
        EDGES.due("are no blanks", x.compile(), -1);
        EDGES.says("NONE: there would be more than 3000.");
        for (int i = 1; i <= 150; i++) {
            EDGES.due("feed " + i, feedBlanks(x), 20 * i);
        }
        EDGES.due("3020", feedBlanks(x), -1);
        EDGES.due("nothing came", x.cut(0), 3000);
        EDGES.due("19 less", x.cut(19), 2981);
        EDGES.due("3001", feedBlanks(x), -1);
        EDGES.due("nothing came", x.cut(0), 2981);
        EDGES.due("20 less", x.cut(1), 2980);
        EDGES.due("3000", feedBlanks(x), 3000);
        EDGES.due("all are read", x.compile(), 0);
        EDGES.due("behind compile()", feedBlanks(x), 20);
    }

    private static void cut() {
        EDGES.says("The TAPE's last n bytes go: how many it has.");
        TextLessons x = new TextLessons();
        Tapes.feed(x, "mark 1\nmark 23");
        EDGES.due("none", x.cut(0), 14);
        EDGES.due("the last one", x.cut(1), 13);
        EDGES.due("STEPS", x.compile(), 2);
        EDGES.due("the first ones stay", Tapes.allSpelled(x), "mark 1/mark 2");
        Tapes.feed(x, "mark 1");
        EDGES.due("all", x.cut(6), 0);
        EDGES.due("what comes then stands first", Tapes.feed(x, "mark 7"), 6);
        EDGES.due("STEPS", x.compile(), 1);
        EDGES.due("their bytes", Tapes.allSpelled(x), "mark 7");
        EDGES.says("NONE: n is below 0, or there are not so many.");
        EDGES.due("one of none", x.cut(1), -1);
        EDGES.due("none of none", x.cut(0), 0);
        Tapes.feed(x, "mark 1");
        for (int n : new int[] {-1, LEAST, 7, GREATEST}) {
            EDGES.due("cut " + n, x.cut(n), -1);
            EDGES.due("nothing went", x.cut(0), 6);
        }
        EDGES.due("the program stays", Tapes.allSpelled(x), "mark 7");
    }

    private static void compile() {
        EDGES.says("The TAPE, which is empty then, becomes the program: how many STEPS it has");
        TextLessons x = new TextLessons();
        EDGES.due("an empty TAPE", x.compile(), 0);
        EDGES.due("is a program", x.run(), 0);
        EDGES.due("60 STEPS", Tapes.compile(x, "mark 1\n".repeat(60)), 60);
        EDGES.due("the TAPE is empty", x.cut(0), 0);
        EDGES.due("an empty TAPE again", x.compile(), 0);
        EDGES.due("there are no STEPS more", x.step(0, 0), -1);
        EDGES.says("all is as at the beginning of its run");
        Tapes.compile(x, "set v0 \"a,b\"\nsplit v0 44 0\nfresh b0 1\nplus w0 1 1\nmark 1\njoin v1 \"x\" \"y\"\npiece v2 9");
        x.run();
        EDGES.due("it ended", x.ended(0), 6);
        EDGES.due("compile", Tapes.compile(x, "set v0 \"q\"\nset v1 \"\"\nset v2 \"r\""), 3);
        EDGES.due("all but the POOL", Tapes.state(x).replace("3 pooled", "1 pooled"), Tapes.state(new TextLessons()));
        EDGES.due("POOL", x.pool(), 3);
        EDGES.due("course", Tapes.course(x), Tapes.course(new TextLessons()));
        EDGES.due("nothing to shrink", x.shrink(), -2);
    }

    /** Three STEPS with 24 unlike LITERALS, which are units from the first one on. */
    private static String literals(int first) {
        StringBuilder lines = new StringBuilder();
        for (int i = 0; i < 24; i++) {
            lines.append(i % 8 > 0 ? "" : i > 0 ? "\njoin v0" : "join v0").append(" \"").append((char) (first + i)).append('"');
        }
        return lines.toString();
    }

    private static void compileAgain() {
        EDGES.says("becomes the program: how many STEPS it has; all is as at the beginning of its run.");
        // Nothing of a former program counts among the LITERALS, units or STEPS of the next.
        TextLessons x = new TextLessons();
        for (int i = 0; i < 3; i++) {
            for (int first : new int[] {'a', 'A', '0'}) {
                EDGES.due("program " + i, Tapes.compile(x, literals(first)), 3);
                EDGES.due("its POOL", x.pool(), 25);
                EDGES.due("its run", x.run() + " " + x.pool() + " " + x.length(0), "0 28 8");
                EDGES.due("its last LITERAL", x.spelled(2, 37) + " " + x.unit(0, 7), (first + 23) + " " + (first + 23));
            }
        }
        x = new TextLessons();
        for (int i = 0; i < 62; i++) {
            EDGES.due("program " + i, Tapes.compile(x, literals('a')), 3);
        }
        EDGES.due("the run of the last", x.run() + " " + x.pool() + " " + x.length(0) + " " + x.unit(0, 7), "0 28 8 120");
        x = new TextLessons();
        for (int i = 0; i < 3; i++) {
            EDGES.due("a FAULT " + i, Tapes.compile(x, "mark 1\n".repeat(60) + "mark 1"), -421);
            EDGES.due("60 STEPS " + i, Tapes.compile(x, "mark 1\n".repeat(60)), 60);
            EDGES.due("a long LITERAL " + i, Tapes.compile(x, "set v0 \"" + "x".repeat(401) + "\""), -8);
            EDGES.due("a short one " + i, Tapes.compile(x, "set v0 \"x\""), 1);
        }
    }

    private static void compileWithFault() {
        EDGES.says("-1 less the place of the FAULT: all stays but the TAPE.");
        EDGES.fault("^x");
        EDGES.fault("mark 1\n^x");
        TextLessons x = new TextLessons();
        EDGES.due("a first FAULT", Tapes.compile(x, "x"), -1);
        EDGES.due("there is no program", x.run(), -2);
        EDGES.due("the TAPE is empty", x.cut(0), 0);
        Tapes.compile(x, "set v0 \"a,b\"\nsplit v0 44 0\nfresh b0 1\nplus w0 1 1\nmark 1\njoin v1 \"x\" \"y\"\npiece v2 9");
        x.run();
        String state = Tapes.state(x);
        String course = Tapes.course(x);
        String steps = Tapes.allSpelled(x);
        for (String fault : new String[] {"set v0 \"q\"\nmork", "set v0 \"q\"\nset v1 v2", "if 1 1", "mark", "set v0 \"" + "x".repeat(401)}) {
            EDGES.due("compile of " + fault, Tapes.compile(x, fault) < 0 ? 1 : 0, 1);
            EDGES.due("the TAPE is empty", x.cut(0), 0);
            EDGES.due("state", Tapes.state(x), state);
            EDGES.due("course", Tapes.course(x), course);
            EDGES.due("STEPS", Tapes.allSpelled(x), steps);
        }
        EDGES.due("it runs as before", x.run(), 7);
        EDGES.due("state", Tapes.state(x), state);
        Tapes.compile(x, "set v0 \"q\"\nmork");
        EDGES.due("it is made shorter as before", x.shrink(), 1);
        EDGES.due("STEPS", Tapes.allSpelled(x), "piece v2 9");
    }

    private static void run() {
        EDGES.says("A run: 0; 1 and the number of the STEP (from 0) whose refusal ended it. NO.");
        EDGES.due("no program", new TextLessons().run(), -2);
        EDGES.due("no STEPS", Tapes.ran("").run(), 0);
        EDGES.due("to its end", Tapes.ran("mark 1").run(), 0);
        EDGES.due("a refusal that is caught", Tapes.ran("catch w0 1", "piece v0 0").run(), 0);
        EDGES.due("the first STEP", Tapes.ran("piece v0 0", "mark 1").run(), 1);
        EDGES.due("the second one", Tapes.ran("mark 1", "piece v0 0").run(), 2);
        EDGES.due("the 60th", Tapes.ran("plus w0 1 1\n".repeat(59) + "piece v0 0").run(), 60);
        EDGES.due("60 STEPS", Tapes.ran("plus w0 1 1\n".repeat(60)).run(), 0);
    }

    private static String ended(TextLessons x) {
        return x.ended(0) + " " + x.ended(1) + " " + x.ended(2) + " " + x.ended(3);
    }

    private static void ended() {
        EDGES.says("what = 0 the STEP that ended it (NONE), 1 the KIND of that (0 if none)");
        EDGES.due("none", ended(Tapes.ran("mark 1")), "-1 0 1 0");
        EDGES.due("one that is caught", ended(Tapes.ran("catch w0 1", "piece v0 0")), "-1 0 1 1");
        EDGES.due("the first STEP", ended(Tapes.ran("piece v0 0")), "0 1 0 1");
        EDGES.due("the KIND of the last refusal", ended(Tapes.ran("catch w0 1", "piece v0 0", "fresh b0 -1")), "2 3 1 2");
        EDGES.says("2 how many STEPS were done (not refused; if and catch, too), 3 how many were refused.");
        EDGES.due("no STEPS", ended(Tapes.ran("")), "-1 0 0 0");
        EDGES.due("what is passed over is not done", ended(Tapes.ran("if 0 2", "mark 1", "mark 2", "mark 3")), "-1 0 2 0");
        EDGES.due("nor the rest of a RANGE", ended(Tapes.ran("catch w0 3", "mark 1", "piece v0 0", "mark 2")), "-1 0 2 1");
        EDGES.due("nor what is behind the end", ended(Tapes.ran("mark 1", "piece v0 0", "mark 2")), "1 1 1 1");
        EDGES.due("60", ended(Tapes.ran("plus w0 1 1\n".repeat(60))), "-1 0 60 0");
        EDGES.due("30 refusals", ended(Tapes.ran("catch w0 1\npiece v0 0\n".repeat(30))), "-1 0 30 30");
        EDGES.says("Of the latest run since compile()");
        TextLessons x = Tapes.ran("mark 1", "piece v0 0");
        x.run();
        EDGES.due("runs are not added up", ended(x), "1 1 1 1");
        EDGES.says("NONE for another what.");
        for (int what : new int[] {-1, 4, 5, LEAST, GREATEST}) {
            EDGES.due("ended " + what, x.ended(what), -1);
        }
        EDGES.says("(0 to 3 are NONE, 0, 0, 0 without one.)");
        EDGES.due("a new object", ended(new TextLessons()), "-1 0 0 0");
        Tapes.compile(x, "mark 1");
        EDGES.due("behind compile()", ended(x), "-1 0 0 0");
    }

    private static void done() {
        EDGES.says("How many STEPS of a sort (0 .. 55) were done in the latest run");
        String given = "open b1 \"a\"\nsplit \"a\" 1 1\n";
        for (int sort = 0; sort < 56; sort++) {
            String name = Model.NAMES.get(sort);
            StringBuilder line = new StringBuilder(name);
            for (String letter : Model.SHAPES.get(sort)) {
                line.append(' ').append(switch (letter) {
                    case "T" -> "\"0\"";
                    case "W", "X", "{X}", "{W}", "N" -> "0";
                    default -> letter + "1";
                });
            }
            // There is no POINT before place 0, and no base 0.
            String step = line.toString().replaceAll("^(before|parse|small)(.*) 0$", name.equals("before") ? "$1$2 1" : "$1$2 2");
            TextLessons x = EDGES.fine(given + step);
            boolean twice = name.equals("open") || name.equals("split");
            EDGES.due("done of " + step, x.done(sort), twice ? 2 : 1);
            EDGES.due("all done with " + step, x.ended(2), 3);
        }
        TextLessons x = Tapes.ran("open b0 \"a\"", "put b0 0 98", "put b0 0 99", "catch w0 1", "put b0 1 1", "if 0 1", "put b0 0 1");
        EDGES.due("put: neither refused nor passed over ones", x.done(39), 2);
        EDGES.due("if and catch", x.done(53) + " " + x.done(54), "1 1");
        x.run();
        EDGES.due("runs are not added up", x.done(39), 2);
        EDGES.due("60", Tapes.ran("plus w0 1 1\n".repeat(60)).done(50), 60);
        EDGES.due("a new object", new TextLessons().done(0) + " " + new TextLessons().done(55), "0 0");
        EDGES.says("NONE for another number.");
        for (int sort : new int[] {-1, 56, 57, LEAST, GREATEST}) {
            EDGES.due("done " + sort, x.done(sort), -1);
        }
    }

    private static void step() {
        EDGES.says("Of STEP k: what = 0 its sort, 1 how many words stand behind its NAME.");
        TextLessons x = new TextLessons();
        Tapes.compile(x, "set v0 \"a b\"\njoin v0 1 2 3 4 5 6 7 8\njoin v0 1\nfrom v0 1\nlines \"\"\nmark 1");
        EDGES.due("sorts", x.step(0, 0) + " " + x.step(1, 0) + " " + x.step(3, 0) + " " + x.step(4, 0) + " " + x.step(5, 0), "0 4 45 28 55");
        EDGES.due("words", x.step(0, 1) + " " + x.step(1, 1) + " " + x.step(2, 1) + " " + x.step(3, 1) + " " + x.step(4, 1) + " "
            + x.step(5, 1), "2 9 2 2 1 1");
        EDGES.says("STEPS, numbered from 0 in this order");
        for (int sort = 0; sort < 56; sort++) {
            TextLessons y = new TextLessons();
            String words = String.join(" ", Model.SHAPES.get(sort)).replaceAll("[{}]", "").replaceAll("\\b([vwb])\\b", "$10")
                .replaceAll("[TX]", "\"\"").replaceAll("[WN]", "0");
            Tapes.compile(y, "fresh b0 1\n" + Model.NAMES.get(sort) + " " + words);
            EDGES.due(Model.NAMES.get(sort), y.step(1, 0) + " " + y.step(1, 1), sort + " " + Model.SHAPES.get(sort).length);
        }
        EDGES.says("NONE: none such, or another what.");
        for (int k : new int[] {-1, 6, 60, LEAST, GREATEST}) {
            EDGES.due("step " + k, x.step(k, 0) + " " + x.step(k, 1), "-1 -1");
        }
        for (int what : new int[] {-1, 2, LEAST, GREATEST}) {
            EDGES.due("what " + what, x.step(0, what), -1);
        }
        EDGES.due("no program", new TextLessons().step(0, 0), -1);
        Tapes.compile(x, "mark 1\n".repeat(60));
        EDGES.due("of 60", x.step(59, 0) + " " + x.step(59, 1) + " " + x.step(60, 0), "55 1 -1");
    }

    /** A STEP and how it is spelled. */
    private static void spells(String want, String line) {
        TextLessons x = new TextLessons();
        Tapes.compile(x, "plus w0 1 1\n" + line + "\nplus w1 1 1\n".repeat(9));
        EDGES.due("spelled of " + line, Tapes.spelled(x, 1), want);
    }

    private static void spelled() {
        EDGES.says("its words with a blank between two");
        spells("plus w1 1 2", "   plus    w1  1     2   ");
        spells("null v19", "null v19");
        spells("join v0 1 2 3 4 5 6 7 8", "join v0 1 2 3 4 5 6 7 8");
        EDGES.says("numbers without 0s ahead (nor -0)");
        spells("mark 0", "mark 0");
        spells("mark 0", "mark 000");
        spells("mark 0", "mark -0");
        spells("mark 0", "mark -000");
        spells("mark 7", "mark 007");
        spells("mark -7", "mark -007");
        spells("mark 100", "mark 00100");
        spells("mark 9223372036854775807", "mark 0009223372036854775807");
        spells("mark -9223372036854775808", "mark -0009223372036854775808");
        spells("if 0 0", "if -0 00");
        spells("if 1 9", "if 01 09");
        spells("catch w0 0", "catch w0 00");
        spells("join v0 @0 @7 ?0 ?-7 @w0 ?w0", "join v0 @-0 @007 ?00 ?-07 @w0 ?w0");
        EDGES.says("Byte i of STEP k as it is spelled");
        TextLessons x = new TextLessons();
        Tapes.compile(x, "mark 12\nset v0 \"\"");
        EDGES.due("the first", x.spelled(0, 0), 'm');
        EDGES.due("the last", x.spelled(0, 6), '2');
        EDGES.due("a blank", x.spelled(0, 4), ' ');
        EDGES.due("a LITERAL's first and last", x.spelled(1, 7) + " " + x.spelled(1, 8), "34 34");
        EDGES.says("others as backslash u and four of 0 .. 9 a .. f. NONE: none such.");
        for (int i : new int[] {-1, 7, 8, LEAST, GREATEST}) {
            EDGES.due("byte " + i, x.spelled(0, i), -1);
        }
        for (int k : new int[] {-1, 2, 60, LEAST, GREATEST}) {
            EDGES.due("STEP " + k, x.spelled(k, 0), -1);
        }
        EDGES.due("no program", new TextLessons().spelled(0, 0), -1);
    }

    private static void spelledLiterals() {
        EDGES.says("LITERALS with units 32 .. 126 but \" and \\ as they are");
        spells("set v0 \" ~\"", "set v0 \"\\u0020\\u007e\"");
        spells("set v0 \"!#[]\"", "set v0 \"\\u0021\\u0023\\u005b\\u005d\"");
        spells("set v0 \"\"", "set v0 \"\"");
        EDGES.says("\\\" \\\\ \\n \\t where told");
        spells("set v0 \"\\\"\\\\\\n\\t\"", "set v0 \"\\u0022\\u005c\\u000a\\u0009\"");
        spells("set v0 \"\\\"\\\\\\n\\t\"", "set v0 \"\\\"\\\\\\n\\t\"");
        EDGES.says("others as backslash u and four of 0 .. 9 a .. f.");
        spells("set v0 \"\\u0000\\u0008\\u000b\\u000d\\u001f\"", "set v0 \"\\u0000\\u0008\\u000b\\u000d\\u001f\"");
        spells("set v0 \"\\u007f\\u0080\\u00ff\\uabcd\\uef09\\uffff\"", "set v0 \"\\u007F\\u0080\\u00FF\\uABCD\\uEF09\\uFFFF\"");
        TextLessons x = new TextLessons();
        Tapes.compile(x, "set v0 \"" + "\\u0001".repeat(400) + "\"");
        EDGES.due("400 of them", Tapes.spelled(x, 0), "set v0 \"" + "\\u0001".repeat(400) + "\"");
        EDGES.due("the last byte", x.spelled(0, 2408) + " " + x.spelled(0, 2409), "34 -1");
    }

    private static void shrinkRefused() {
        EDGES.says("NO: the latest run did not end by a refusal (or there was none).");
        EDGES.due("no program", new TextLessons().shrink(), -2);
        TextLessons x = new TextLessons();
        Tapes.compile(x, "piece v0 0");
        EDGES.due("no run", x.shrink(), -2);
        EDGES.due("the program stays", x.step(0, 0), 29);
        EDGES.due("nothing was run", x.ended(3), 0);
        EDGES.due("no refusal", Tapes.ran("mark 1").shrink(), -2);
        EDGES.due("no STEPS", Tapes.ran("").shrink(), -2);
        x = Tapes.ran("mark 1", "catch w0 1", "piece v0 0");
        EDGES.due("one that is caught", x.shrink(), -2);
        EDGES.due("all stays", Tapes.allSpelled(x) + " " + ended(x) + " " + Tapes.marks(x), "mark 1/catch w0 1/piece v0 0 -1 0 2 1 1");
        x = Tapes.ran("piece v0 0");
        Tapes.compile(x, "piece v0 0");
        EDGES.due("a run before compile()", x.shrink(), -2);
    }

    /** What is left, with / between two STEPS. */
    private static TextLessons shrinks(String want, String... lines) {
        TextLessons x = Tapes.ran(lines);
        String shown = "shrink of " + String.join("/", lines);
        int count = x.shrink();
        EDGES.due(shown, Tapes.allSpelled(x), want);
        EDGES.due(shown + ": how many", count, want.split("/").length);
        return x;
    }

    private static void shrink() {
        EDGES.says("STEPS, from the last to the first, are left out, each one if what is left");
        shrinks("piece v0 0", "piece v0 0");
        shrinks("piece v0 0", "mark 1", "piece v0 0");
        shrinks("piece v0 0", "piece v0 0", "mark 1");
        shrinks("piece v0 0", "piece v0 0", "piece v1 0", "piece v2 0");
        shrinks("piece v0 0", "plus w0 1 1\n".repeat(59) + "piece v0 0");
        // The later of two STEPS either of which would do is left out.
        shrinks("null v0/trim v1 v0", "null v0", "null v0", "trim v1 v0", "trim v2 v0");
        EDGES.says("its run ends by a refusal of the KIND by which the latest run ended");
        shrinks("null v0/trim v1 v0", "null v0", "trim v1 v0");
        shrinks("fresh b0 -1", "catch w0 1", "piece v0 0", "fresh b0 -1");
        shrinks("piece v1 0", "catch w0 1", "piece v0 0", "piece v1 0");
        // A refusal of another KIND stays caught as long as what it gives is used.
        shrinks("catch w0 1/fresh b0 -1/unit w1 \"abc\" w0", "catch w0 1", "fresh b0 -1", "unit w1 \"abc\" w0");
        EDGES.says("again from the last one, till none is left out");
        // Only when 'set v0' has gone may the second 'null v0' go.
        shrinks("null v0/join v1 v0/order w0 v1 v0", "null v0", "join v1 v0", "set v0 \"a\"", "null v0", "order w0 v1 v0");
        // The first round goes on to the first STEP before it begins again from the last.
        shrinks("plus w0 0 9/unit w1 \"abc\" w0", "plus w0 0 8", "plus w0 0 1", "plus w0 0 9", "unit w1 \"abc\" w0");
        EDGES.says("How many STEPS it has then; it was run last.");
        TextLessons x = shrinks("set v0 \"a\"/unit w0 v0 1", "mark 5", "set v0 \"a\"", "set v3 \"q\"", "unit w0 v0 1", "mark 6");
        EDGES.due("the run of what is left", ended(x), "1 1 1 1");
        EDGES.due("done", x.done(0) + " " + x.done(55), "1 0");
        EDGES.due("MARKS", x.marks(), 0);
        EDGES.due("texts", x.length(0) + " " + x.length(3), "1 -1");
        EDGES.due("POOL", x.pool(), 2);
        EDGES.due("a STEP that is left out", x.step(2, 0) + " " + x.spelled(2, 0), "-1 -1");
        EDGES.due("it runs so again", x.run(), 2);
        EDGES.due("nothing more to leave out", x.shrink(), 2);
        x = shrinks("piece v0 0", "piece v0 0");
        EDGES.due("though none was left out", ended(x), "0 1 0 1");
    }

    private static void shrinkRanges() {
        EDGES.says("(N of RANGES in which it stands being one less; the STEPS of its own RANGE stay)");
        String tail = "unit w1 \"abc\" w0";
        shrinks("catch w0 1/fresh b0 -1/" + tail, "catch w0 2", "mark 1", "fresh b0 -1", tail);
        shrinks("catch w0 1/fresh b0 -1/" + tail, "catch w0 2", "fresh b0 -1", "mark 1", tail);
        shrinks("catch w0 1/fresh b0 -1/" + tail, "catch w0 1", "fresh b0 -1", "mark 1", tail);
        shrinks("catch w0 1/fresh b0 -1/" + tail, "mark 1", "catch w0 1", "fresh b0 -1", tail);
        shrinks("catch w0 1/fresh b0 -1/" + tail, "catch w0 3", "if 1 2", "fresh b0 -1", "mark 1", tail);
        shrinks("catch w0 1/fresh b0 -1/" + tail, "if 1 3", "catch w0 1", "fresh b0 -1", tail);
        shrinks("piece v0 0", "if 1 2", "if 1 1", "piece v0 0");
        shrinks("piece v0 0", "if 0 1", "mark 1", "piece v0 0");
        shrinks("piece v0 0", "catch w0 0", "if 1 0", "piece v0 0");
        // A RANGE of none stays where the catch gives a w that is used.
        shrinks("catch w0 0/piece v0 w0", "catch w0 2", "mark 1", "mark 2", "piece v0 w0");
        shrinks("catch w0 0/piece v0 w0", "catch w1 3", "catch w0 1", "mark 1", "mark 2", "catch w0 0", "piece v0 w0");
        // Two RANGES around one STEP are both one less: else the outer one would go too far.
        shrinks("fresh b0 -1", "catch w0 3", "catch w1 1", "mark 1", "piece v0 w1", "fresh b0 -1");
        shrinks("catch w0 3/catch w1 1/fresh b0 -1/unit w4 \"abc\" w1/plus w2 w0 2/unit w3 \"abc\" w2",
            "catch w0 5", "catch w1 3", "mark 1", "fresh b0 -1", "mark 2", "unit w4 \"abc\" w1", "plus w2 w0 2",
            "unit w3 \"abc\" w2");
    }

    private static void shrinkWords() {
        EDGES.says("The program is made shorter");
        // What is left has its words as they were, with the signs of X.
        shrinks("plus w0 0 -1/join v0 \"a\" w0 @w0", "plus w0 0 -1", "mark 1", "join v0 \"a\" w0 @w0");
        shrinks("plus w0 0 -1/join v0 ?w0 @w0", "plus w0 0 -1", "join v1 @65 @66 ?67", "join v0 ?w0 @w0", "join v2 @65 ?65 1 2");
        shrinks("repeat v0 \"x\" 395/join v1 v0 ?0 @65536", "mark 1", "repeat v0 \"x\" 395", "join v1 v0 ?0 @65536", "mark 2");
        TextLessons x = shrinks("join v1 8 7 6 5 4 3 @-2 1", "join v0 1 2 3 4 5 6 7 8\n".repeat(59) + "join v1 8 7 6 5 4 3 @-2 1");
        EDGES.due("the run", ended(x), "0 3 0 1");
        StringBuilder all = new StringBuilder("plus w0 3 0");
        for (int i = 1; i < 59; i++) {
            all.append("\nplus w").append(i % 2).append(" w").append((i - 1) % 2).append(" 0");
        }
        shrinks("plus w0 3 0/unit w2 \"abc\" w0", all + "\nunit w2 \"abc\" w0");
    }

    private static void shrinkJudges() {
        EDGES.says("is JUDGED without a FAULT");
        shrinks("null v0/set v1 v0/trim v2 v1", "null v0", "set v1 v0", "trim v2 v1");
        shrinks("fresh b0 0/size b0 -1", "fresh b0 0", "turn b0", "size b0 -1");
        shrinks("plus w0 1 1/plus w1 w0 0/piece v0 w1", "plus w0 1 1", "plus w1 w0 0", "plus w2 w1 w1", "piece v0 w1");
        // Without the first of them the second one gives the same.
        shrinks("null v0/trim v1 v0", "set v0 \"\"", "null v0", "trim v1 v0");
        // The POOL of what is left has not got the LITERAL of the STEP that is tried.
        shrinks("copy v0 \"ab\"/join v1 \"a\" \"b\"/same w0 v0 v1/unit w1 \"\" w0",
            "copy v0 \"ab\"", "join v1 \"a\" \"b\"", "same w0 v0 v1", "unit w1 \"\" w0");
    }

    private static void texts() {
        TextLessons x = EDGES.fine("set v0 \"ab\\uffff\"", "set v19 \"\"", "null v1", "repeat v2 \"x\" 400");
        int[] noText = {-1, 20, LEAST, GREATEST};
        EDGES.says("How many units text v (0 .. 19) has; NONE if it is MISSING, or there is none such.");
        EDGES.due("lengths", x.length(0) + " " + x.length(19) + " " + x.length(2), "3 0 400");
        EDGES.due("MISSING", x.length(1) + " " + x.length(3), "-1 -1");
        for (int v : noText) {
            EDGES.due("length " + v, x.length(v), -1);
        }
        EDGES.says("Unit i of text v; NONE.");
        EDGES.due("units", x.unit(0, 0) + " " + x.unit(0, 2) + " " + x.unit(2, 399), "97 65535 120");
        for (int i : new int[] {-1, 3, LEAST, GREATEST}) {
            EDGES.due("unit " + i, x.unit(0, i), -1);
        }
        EDGES.due("without units", x.unit(19, 0), -1);
        EDGES.due("MISSING", x.unit(1, 0) + " " + x.unit(3, 0), "-1 -1");
        EDGES.due("the 401st", x.unit(2, 400), -1);
        for (int v : noText) {
            EDGES.due("text " + v, x.unit(v, 0), -1);
        }
        EDGES.says("The HASH of text v; 0 if it is MISSING, or there is none such.");
        EDGES.due("hash", x.hash(0), "ab\uffff".hashCode());
        EDGES.due("without units", x.hash(19), 0);
        EDGES.due("MISSING", x.hash(1) + " " + x.hash(3), "0 0");
        EDGES.due("it wraps", EDGES.fine("set v0 \"polygenelubricants\"").hash(0), LEAST);
        for (int v : noText) {
            EDGES.due("hash " + v, x.hash(v), 0);
        }
    }

    private static void same() {
        EDGES.says("1 if texts v and u are one object, 0 if not, or both MISSING; NONE: there is none such.");
        TextLessons x = EDGES.fine("set v0 \"ab\"", "set v19 v0", "copy v2 v0", "null v3", "set v4 \"\"", "copy v5 \"\"");
        EDGES.due("one object", x.same(0, 19) + " " + x.same(19, 0) + " " + x.same(0, 0), "1 1 1");
        EDGES.due("EQUAL ones", x.same(0, 2) + " " + x.same(4, 5), "0 0");
        EDGES.due("both MISSING", x.same(3, 3) + " " + x.same(3, 6) + " " + x.same(6, 6), "0 0 0");
        EDGES.due("one MISSING", x.same(0, 3) + " " + x.same(3, 0), "0 0");
        for (int v : new int[] {-1, 20, LEAST, GREATEST}) {
            EDGES.due("same " + v, x.same(v, 0) + " " + x.same(0, v) + " " + x.same(v, v) + " " + x.same(3, v), "-1 -1 -1 -1");
        }
    }

    private static void pool() {
        EDGES.says("1 if text v's object is in the POOL, else 0; NONE if it is MISSING, or there is none such.");
        TextLessons x = EDGES.fine("set v0 \"ab\"", "copy v1 v0", "null v2", "set v19 \"\"", "copy v4 \"\"", "repeat v5 v0 2",
            "repeat v6 v0 3", "intern v7 v6");
        EDGES.due("in it", x.pooled(0) + " " + x.pooled(19) + " " + x.pooled(6) + " " + x.pooled(7), "1 1 1 1");
        EDGES.due("not in it", x.pooled(1) + " " + x.pooled(4) + " " + x.pooled(5), "0 0 0");
        EDGES.due("MISSING", x.pooled(2) + " " + x.pooled(3), "-1 -1");
        for (int v : new int[] {-1, 20, LEAST, GREATEST}) {
            EDGES.due("pooled " + v, x.pooled(v), -1);
        }
        EDGES.says("How many texts are in the POOL.");
        EDGES.due("a new object", new TextLessons().pool(), 1);
        EDGES.due("EMPTY, a LITERAL, and one more", x.pool(), 3);
        // Three joins of eight LITERALS each, and 57 joins of NUMBERS: each of them adds one.
        StringBuilder most = new StringBuilder();
        for (char sign = 'a'; sign < 'y'; sign++) {
            most.append((sign - 'a') % 8 == 0 ? "\njoin v0" : "").append(" \"").append(sign).append('"');
        }
        for (int i = 100; i < 157; i++) {
            most.append("\njoin v0 ").append(i);
        }
        x = EDGES.fine(most.toString());
        EDGES.due("the most there may be", x.pool(), 1 + 24 + 60);
        EDGES.due("the last one", x.pooled(0), 1);
        StringBuilder joins = new StringBuilder();
        for (int i = 100; i < 160; i++) {
            joins.append("join v0 ").append(i).append('\n');
        }
        EDGES.due("60 joins", EDGES.fine(joins.toString()).pool(), 61);
    }

    private static void wholes() {
        EDGES.says("Whole w (0 .. 11); 0 if it was not given in the run, or there is none such.");
        TextLessons x = EDGES.fine("plus w0 9223372036854775807 0", "plus w11 -9223372036854775808 0", "if 0 1", "plus w1 1 1");
        EDGES.due("w0", x.whole(0), Long.MAX_VALUE);
        EDGES.due("w11", x.whole(11), Long.MIN_VALUE);
        EDGES.due("not given", x.whole(1) + " " + x.whole(2), "0 0");
        for (int w : new int[] {-1, 12, LEAST, GREATEST}) {
            EDGES.due("whole " + w, x.whole(w), 0);
        }
        EDGES.due("a new object", new TextLessons().whole(0), 0);
        Tapes.compile(x, "piece v0 0\nplus w0 1 1");
        EDGES.due("behind compile()", x.whole(0) + " " + x.whole(11), "0 0");
        x.run();
        EDGES.due("behind the end of the run", x.whole(0), 0);
        EDGES.due("the w of a catch that is refused in its RANGE", Tapes.ran("catch w0 1", "piece v0 0").whole(0), 1);
    }

    private static void builders() {
        EDGES.says("Of builder b (0 .. 5): what = 0 how many units, 1 its ROOM. NONE: there is none, or another what.");
        TextLessons x = EDGES.fine("open b0 \"ab\"", "fresh b5 400", "if 0 1", "fresh b1 1", "fresh b2 0");
        EDGES.due("units", x.builder(0, 0) + " " + x.builder(5, 0) + " " + x.builder(2, 0), "2 0 0");
        EDGES.due("ROOM", x.builder(0, 1) + " " + x.builder(5, 1) + " " + x.builder(2, 1), "18 400 0");
        EDGES.due("none", x.builder(1, 0) + " " + x.builder(1, 1) + " " + x.builder(3, 0), "-1 -1 -1");
        for (int n : new int[] {-1, 6, LEAST, GREATEST}) {
            EDGES.due("builder " + n, x.builder(n, 0) + " " + x.builder(n, 1), "-1 -1");
        }
        for (int what : new int[] {-1, 2, LEAST, GREATEST}) {
            EDGES.due("what " + what, x.builder(0, what), -1);
        }
        EDGES.due("a new object", new TextLessons().builder(0, 0), -1);
        EDGES.says("Unit i of builder b; NONE.");
        EDGES.due("units", x.builderUnit(0, 0) + " " + x.builderUnit(0, 1), "97 98");
        for (int i : new int[] {-1, 2, LEAST, GREATEST}) {
            EDGES.due("unit " + i, x.builderUnit(0, i), -1);
        }
        EDGES.due("without units", x.builderUnit(5, 0), -1);
        EDGES.due("none", x.builderUnit(1, 0), -1);
        for (int n : new int[] {-1, 6, LEAST, GREATEST}) {
            EDGES.due("builder " + n, x.builderUnit(n, 0), -1);
        }
        x = EDGES.fine("open b0 \"ab\"", "size b0 1");
        EDGES.due("one that went", x.builderUnit(0, 1), -1);
        x = EDGES.fine("repeat v0 \"\\uffff\" 400", "open b0 v0");
        EDGES.due("the 400th and the 401st", x.builderUnit(0, 399) + " " + x.builderUnit(0, 400), "65535 -1");
        Tapes.compile(x, "mark 1");
        EDGES.due("one of another program", x.builderUnit(0, 0), -1);
    }

    private static void parts() {
        EDGES.says("How many PARTS there are.");
        EDGES.due("a new object", new TextLessons().parts(), 0);
        EDGES.due("none", EDGES.fine("lines \"\"").parts(), 0);
        EDGES.due("24", EDGES.fine("repeat v0 \",\" 23", "split v0 44 -1").parts(), 24);
        EDGES.due("the latest ones", EDGES.fine("split \"a,b,c\" 44 0", "split \"d,e\" 44 0").parts(), 2);
        TextLessons x = EDGES.fine("split \"a,,bc,d\" 44 -1", "piece v3 2", "piece v5 2", "set v4 \"\"", "copy v0 \"\"", "copy v1 \"a\"");
        EDGES.says("Unit i of PART k; NONE.");
        EDGES.due("units", x.partUnit(0, 0) + " " + x.partUnit(2, 0) + " " + x.partUnit(2, 1) + " " + x.partUnit(3, 0), "97 98 99 100");
        EDGES.due("without units", x.partUnit(1, 0), -1);
        for (int i : new int[] {-1, 2, LEAST, GREATEST}) {
            EDGES.due("unit " + i, x.partUnit(2, i), -1);
        }
        for (int k : new int[] {-1, 4, 24, LEAST, GREATEST}) {
            EDGES.due("PART " + k, x.partUnit(k, 0), -1);
        }
        EDGES.says("The number of the first text v whose object PART k is; NONE: of none, or there is no such PART.");
        EDGES.due("the first of two", x.partOf(2), 3);
        EDGES.due("EMPTY, but not an EQUAL one", x.partOf(1), 4);
        EDGES.due("of none, but of an EQUAL one", x.partOf(0), -1);
        EDGES.due("of none", x.partOf(3), -1);
        for (int k : new int[] {-1, 4, 24, LEAST, GREATEST}) {
            EDGES.due("PART " + k, x.partOf(k), -1);
        }
        EDGES.due("all of T", EDGES.fine("copy v19 \"a\"", "split v19 44 0").partOf(0), 19);
        EDGES.due("text 0", EDGES.fine("copy v0 \"a\"", "set v1 v0", "lines v1").partOf(0), 0);
        EDGES.due("one that v had before", EDGES.fine("copy v0 \"a\"", "lines v0", "null v0").partOf(0), -1);
        x = new TextLessons();
        EDGES.due("a new object", x.partUnit(0, 0) + " " + x.partOf(0), "-1 -1");
    }

    private static void marks() {
        EDGES.says("How many MARKS there are.");
        EDGES.due("a new object", new TextLessons().marks(), 0);
        StringBuilder lines = new StringBuilder();
        for (int i = 0; i < 31; i++) {
            lines.append("mark ").append(100 + i).append('\n');
        }
        TextLessons x = Tapes.ran(lines.toString());
        EDGES.due("30 of 31", x.marks(), 30);
        EDGES.says("MARK k, from 0; 0: none such.");
        EDGES.due("the first", x.mark(0), 100);
        EDGES.due("the last", x.mark(29), 129);
        for (int k : new int[] {-1, 30, 31, LEAST, GREATEST}) {
            EDGES.due("mark " + k, x.mark(k), 0);
        }
        EDGES.due("64 bits", EDGES.fine("mark -9223372036854775808").mark(0), Long.MIN_VALUE);
        Tapes.compile(x, "mark 5");
        EDGES.due("behind compile()", x.mark(0) + " " + x.marks(), "0 0");
        x.run();
        EDGES.due("of a shorter run", x.mark(0) + " " + x.mark(1) + " " + x.marks(), "5 0 1");
        EDGES.due("a new object", new TextLessons().mark(0), 0);
    }

    private static void lastCall() {
        EDGES.says("An object is used for at most 512 calls after it has been made");
        TextLessons x = new TextLessons();
        x.feed(0x6d61726b, 0x20373720, 0x0a706965, 0x63652076, 0x30203020);
        x.compile();
        for (int call = 3; call < 511; call++) {
            EDGES.due("call " + call, x.run(), 2);
        }
        EDGES.due("call 511", x.shrink(), 1);
        EDGES.due("call 512", x.step(0, 0), 29);
    }
}
