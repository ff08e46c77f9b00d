/** Each promise of the document by itself: ordinary inputs, the edges that it names, wrong inputs. */
public final class PromiseTest {
    private static final Checks CHECKS = new Checks();

    public static void main(String[] args) {
        newObject();
        feed();
        cut();
        compileReads();
        compileFaultsOfWords();
        compileFaultsOfLiterals();
        compileLimits();
        compileJudges();
        compileKeepsOrRenews();
        run();
        ended();
        done();
        step();
        spelled();
        shrink();
        shrinkKeepsKindAndRanges();
        textAnswers();
        sameAndPool();
        wholes();
        builders();
        parts();
        marks();
        CHECKS.end("PromiseTest");
    }

    private static void due(String what, long got, long want) {
        CHECKS.due(what, got, want);
    }

    private static void due(String what, String got, String want) {
        CHECKS.due(what, got, want);
    }

    /** What compile() answers to a program. */
    private static void compiles(String program, int want) {
        due("compile of " + program.replace('\n', '/'), Tapes.compile(new TextLessons(), program), want);
    }

    /** The program has its FAULT at a place. */
    private static void faultAt(String program, int place) {
        compiles(program, -1 - place);
    }

    // ---- promises 1 to 3

    private static void newObject() {
        TextLessons x = new TextLessons();
        due("1 NONE", TextLessons.NONE, -1);
        due("1 NO", TextLessons.NO, -2);
        due("1 tape", x.cut(0), 0);
        due("1 run", x.run(), -2);
        due("1 shrink", x.shrink(), -2);
        due("1 ended", x.ended(0) + " " + x.ended(1) + " " + x.ended(2) + " " + x.ended(3), "-1 0 0 0");
        due("1 done", x.done(0), 0);
        due("1 step", x.step(0, 0), -1);
        due("1 spelled", x.spelled(0, 0), -1);
        due("1 length", x.length(0), -1);
        due("1 unit", x.unit(0, 0), -1);
        due("1 hash", x.hash(0), 0);
        due("1 same", x.same(0, 0), 0);
        due("1 pooled", x.pooled(0), -1);
        due("1 pool", x.pool(), 1);
        due("1 whole", x.whole(0), 0);
        due("1 builder", x.builder(0, 0), -1);
        due("1 builderUnit", x.builderUnit(0, 0), -1);
        due("1 parts", x.parts(), 0);
        due("1 partUnit", x.partUnit(0, 0), -1);
        due("1 partOf", x.partOf(0), -1);
        due("1 marks", x.marks(), 0);
        due("1 mark", x.mark(0), 0);
    }

    private static void feed() {
        TextLessons x = new TextLessons();
        // "mark", " 513" with its bytes from the highest on, then blanks.
        due("2 feed", x.feed(0x6d61726b, 0x20353133, 0x20202020, 0x20202020, 0x20202020), 20);
        due("2 steps", x.compile(), 1);
        due("2 order of bytes", Tapes.spelled(x, 0), "mark 513");
        for (int i = 1; i <= 150; i++) {
            due("2 feed " + i, x.feed(0x20202020, 0x20202020, 0x20202020, 0x20202020, 0x20202020), 20 * i);
        }
        due("2 more than 3000", x.feed(0, 0, 0, 0, 0), -1);
        due("2 nothing came", x.cut(0), 3000);
        due("2 cut 19", x.cut(19), 2981);
        due("2 3001", x.feed(0, 0, 0, 0, 0), -1);
        due("2 cut 1", x.cut(1), 2980);
        due("2 3000 again", x.feed(-1, -1, -1, -1, -1), 3000);
        due("2 bytes above 127 are not blanks", x.compile(), -1 - 2980);
    }

    private static void cut() {
        TextLessons x = new TextLessons();
        due("3 of none", x.cut(1), -1);
        Tapes.feed(x, "mark 1\nmark 2");
        due("3 below 0", x.cut(-1), -1);
        due("3 too many", x.cut(14), -1);
        due("3 least int", x.cut(Integer.MIN_VALUE), -1);
        due("3 greatest int", x.cut(Integer.MAX_VALUE), -1);
        due("3 the last go", x.cut(7), 6);
        due("3 steps", x.compile(), 1);
        due("3 the first stay", Tapes.allSpelled(x), "mark 1");
        Tapes.feed(x, "mark 1");
        due("3 all", x.cut(6), 0);
    }

    // ---- promise 4

    private static void compileReads() {
        compiles("", 0);
        compiles("\n", 0);
        compiles("  \n\n   ", 0);
        compiles("mark 1", 1);
        compiles("mark 1\n", 1);
        compiles("\n  mark   1  \n\n mark 2 \n ", 2);
        compiles("set v0 \"a b\"", 1);
        compiles("set v0 \"\\\"\\\\ \\n\\t\\u00Ff \"   ", 1);
        compiles("set v19 \"\"\nplus w11 1 2\nfresh b5 1", 3);
        compiles("mark 9223372036854775807\nmark -9223372036854775808\nmark 000000000000000000000000000007\nmark -0", 4);
        compiles("if 1 00\nif 1 01\nmark 1", 3);
        compiles("join v0 1 2 3 4 5 6 7 8\nfrom v0 1 2 3 4 5 6 7 8", 2);
        faultAt("plus w0 1 1\nopen b0 \"a\"\njoin v0 \"a\" v0 w0 b0 @w0 @65 ?w0 ?-1", 36);
        compiles("plus w0 1 1\nopen b0 \"a\"\nset v0 \"\"\njoin v0 \"a\" v0 w0 b0 @w0 @65 ?w0 ?-1", 4);
    }

    private static void compileFaultsOfWords() {
        faultAt("mork 1", 0);
        faultAt("mark 1\n marks 1", 8);
        faultAt("Mark 1", 0);
        faultAt("\"mark\" 1", 0);
        faultAt("mark", 4);
        faultAt("mark  \nmark 1", 6);
        faultAt("mark 1\nplus w0 1", 16);
        faultAt("mark 1 2", 7);
        faultAt("mark 1 \"", 7);
        faultAt("join v0", 7);
        faultAt("join v0 1 2 3 4 5 6 7 8 9", 24);
        faultAt("from v0 1 2 3 4 5 6 7 8 9", 24);
        faultAt("from v0 \"a\"", 8);
        faultAt("set v20 \"\"", 4);
        faultAt("set v00 \"\"", 4);
        faultAt("set v01 \"\"", 4);
        faultAt("set v \"\"", 4);
        faultAt("set v100 \"\"", 4);
        faultAt("set v001 \"\"", 4);
        faultAt("set w0 \"\"", 4);
        faultAt("set v0 5", 7);
        faultAt("plus w12 1 2", 5);
        faultAt("fresh b6 1", 6);
        faultAt("mark v0", 5);
        faultAt("mark +1", 5);
        faultAt("mark -", 5);
        faultAt("mark 1x", 5);
        faultAt("mark @1", 5);
        faultAt("mark 9223372036854775808", 5);
        faultAt("mark -9223372036854775809", 5);
        faultAt("mark 99999999999999999999999", 5);
        faultAt("if 1 -0", 5);
        faultAt("if 1 000", 5);
        faultAt("if 1 w0", 5);
        faultAt("join v0 @", 8);
        faultAt("join v0 @ 1", 8);
        faultAt("join v0 @\"a\"", 8);
        faultAt("join v0 @@1", 8);
        faultAt("join v0 ?v0", 8);
        faultAt("mark\t1", 0);
        faultAt("mark 1\r\nmark 2", 5);
        // A word that is not so comes before one that is not GIVEN, wherever that stands.
        faultAt("mark w0\nmork 1", 8);
    }

    private static void compileFaultsOfLiterals() {
        faultAt("set v0 \"a", 7);
        faultAt("set v0 \"a\nb\"", 7);
        faultAt("set v0 \"", 7);
        faultAt("set v0 \"a\"b", 7);
        faultAt("join v0 \"a\"\"b\"", 8);
        faultAt("set v0 a\"b\"", 7);
        faultAt("set v0 \"\\x\"", 7);
        faultAt("set v0 \"\\", 7);
        faultAt("set v0 \"\\\"", 7);
        faultAt("set v0 \"\\u12g4\"", 7);
        faultAt("set v0 \"\\u123\"", 7);
        faultAt("set v0 \"\\u12", 7);
        faultAt("set v0 \"\t\"", 7);
        faultAt("set v0 \"\u007f\"", 7);
        faultAt("set v0 \"\u00e4\"", 7);
        compiles("set v0 \"" + "x".repeat(400) + "\"", 1);
        faultAt("set v0 \"" + "x".repeat(401) + "\"", 7);
        compiles("set v0 \"" + "\\u0041".repeat(400) + "\"", 1);
    }

    private static void compileLimits() {
        compiles("mark 1\n".repeat(60), 60);
        faultAt("mark 1\n".repeat(60) + "  mark 1", 422);
        faultAt("mark 1\n".repeat(60) + "mork", 420);
        compiles("mark 1\n".repeat(60) + "\n   \n", 60);
        StringBuilder literals = new StringBuilder();
        for (int i = 0; i < 24; i++) {
            literals.append("set v0 \"").append((char) ('a' + i)).append("\"\n");
        }
        compiles(literals + "set v0 \"a\"\nset v0 \"\\u0062\"", 26);
        faultAt(literals + "set v0 \"z\"", 24 * 11 + 7);
        faultAt(literals + "set v0 \"\"", 24 * 11 + 7);
    }

    private static void compileJudges() {
        faultAt("set v0 v0", 7);
        faultAt("set v1 \"\"\nset v0 v2", 17);
        faultAt("mark w0", 5);
        faultAt("join v0 @w0", 8);
        faultAt("join v0 ?w0", 8);
        faultAt("join v0 b0", 8);
        faultAt("turn b0", 5);
        faultAt("fresh b0 1\nfirst w0 b0 b1", 23);
        faultAt("text v0 b0", 8);
        faultAt("split v0 1 1", 6);
        compiles("fresh b0 1\nopen b0 \"\"\nadd b0 b0", 3);
        compiles("null v0\nset v1 v0", 2);
        // RANGES end within the program, and within the one in which they stand.
        faultAt("if 1 1", 5);
        compiles("if 1 0", 1);
        faultAt("if 1 2\nmark 1", 5);
        faultAt("if 1 1\nif 1 1\nmark 1", 12);
        compiles("if 1 2\nif 1 1\nmark 1", 3);
        faultAt("catch w0 1", 9);
        faultAt("if w0 9", 3);
        // What a RANGE's STEPS give is not GIVEN behind it.
        faultAt("if 1 1\nset v0 \"\"\nset v1 v0", 24);
        compiles("if 1 2\nset v0 \"\"\nset v1 v0", 3);
        compiles("set v0 \"\"\nif 1 1\nset v0 \"\"\nset v1 v0", 4);
        // A catch gives its w behind its RANGE alone.
        faultAt("catch w0 1\nmark w0", 16);
        compiles("catch w0 1\nmark 1\nmark w0", 3);
        compiles("catch w0 0\nmark w0", 2);
        faultAt("if 1 2\ncatch w0 1\nmark 1\nmark w0", 30);
        compiles("if 1 3\ncatch w0 1\nmark 1\nmark w0", 4);
        faultAt("catch w1 2\ncatch w0 1\nmark 1\nmark w0", 34);
        compiles("plus w0 1 1\ncatch w0 1\nmark w0", 3);
    }

    private static void compileKeepsOrRenews() {
        TextLessons x = Tapes.ran("set v0 \"ab\"", "mark 7", "fresh b0 3", "split v0 97 -1", "plus w0 1 1", "piece v1 9");
        due("4 a FAULT", Tapes.compile(x, "mark 1\nmork"), -8);
        due("4 the TAPE is empty", x.cut(0), 0);
        due("4 the run stays", x.ended(0) + " " + x.ended(1) + " " + x.ended(2) + " " + x.ended(3), "5 1 5 1");
        due("4 the program stays", Tapes.spelled(x, 0), "set v0 \"ab\"");
        due("4 texts stay", Tapes.text(x, 0), "ab");
        due("4 marks stay", x.mark(0), 7);
        due("4 the POOL stays", x.pool(), 2);
        due("4 still runs", x.run(), 6);
        due("4 renewed", Tapes.compile(x, "set v0 \"x\"\nset v1 \"y\"\nset v2 \"\"\nset v3 \"\\u0078\""), 4);
        due("4 the TAPE is empty again", x.cut(0), 0);
        due("4 no run yet", x.ended(0) + " " + x.ended(1) + " " + x.ended(2) + " " + x.ended(3), "-1 0 0 0");
        due("4 none done", x.done(0), 0);
        due("4 nothing to shrink", x.shrink(), -2);
        due("4 texts are MISSING", x.length(0), -1);
        due("4 no builders", x.builder(0, 0), -1);
        due("4 no marks", x.marks(), 0);
        due("4 no parts", x.parts(), 0);
        due("4 wholes", x.whole(0), 0);
        due("4 the POOL has EMPTY and LITERALS", x.pool(), 3);
        due("4 an empty TAPE is a program", x.compile(), 0);
        due("4 which runs", x.run(), 0);
    }

    // ---- promises 5 to 8

    private static void run() {
        due("5 NO", new TextLessons().run(), -2);
        due("5 to its end", Tapes.ran("mark 1").run(), 0);
        TextLessons x = Tapes.ran("mark 1", "piece v0 0", "mark 2");
        due("5 refused", x.run(), 2);
        due("5 what was done stays", x.marks(), 1);
        due("5 the first STEP", Tapes.ran("piece v0 0").run(), 1);

        x = Tapes.ran("if 0 2", "mark 1", "mark 2", "mark 3", "if -5 1", "mark 4");
        due("5 if", x.marks() + " " + x.mark(0) + " " + x.mark(1), "2 3 4");
        x = Tapes.ran("if 0 3", "catch w0 1", "mark 1", "mark 2", "mark 3");
        due("5 if passes over RANGES", x.marks() + " " + x.mark(0), "1 3");

        x = Tapes.ran("catch w0 3", "mark 1", "piece v0 0", "mark 2", "mark w0");
        due("5 the rest is passed over", x.marks() + " " + x.mark(0) + " " + x.mark(1), "2 1 1");
        x = Tapes.ran("plus w0 3 4", "catch w0 1", "mark w0", "mark w0");
        due("5 w is 0 behind the RANGE alone", x.mark(0) + " " + x.mark(1), "7 0");
        x = Tapes.ran("catch w0 4", "catch w1 1", "fresh b0 -1", "mark w1", "parse w2 \"\" 10", "mark w0");
        due("5 the innermost catch", x.mark(0) + " " + x.mark(1) + " " + x.run(), "3 2 0");
        x = Tapes.ran("catch w0 2", "catch w0 1", "piece v0 0", "mark w0");
        due("5 two catches that end together", x.mark(0), 0);
        x = Tapes.ran("catch w0 1", "catch w1 0", "plus w2 w0 0");
        due("5 a catch may end with another", x.run(), 0);
        x = Tapes.ran("catch w0 3", "if 0 2", "piece v0 0", "piece v0 0", "mark w0");
        due("5 an if may end with a catch", x.mark(0), 0);
        x = Tapes.ran("catch w0 2", "if 1 1", "piece v0 0", "mark w0");
        due("5 a refusal in an if in a catch", x.mark(0), 1);
        due("5 behind a catch none is caught", Tapes.ran("catch w0 1", "mark 1", "piece v0 0").run(), 3);

        kinds();
        textSteps();
        placeSteps();
        changeSteps();
        caseSteps();
        searchSteps();
        partSteps();
        builderSteps();
        numberSteps();
    }

    /** The KIND by which the last of some STEPS is refused; 0 if it is not. */
    private static void kind(int want, String... lines) {
        due("5 KIND of " + String.join("/", lines), Tapes.ran(lines).ended(1), want);
    }

    private static void kinds() {
        String missing = "null v0";
        for (String name : new String[] {"copy v1 v0", "intern v1 v0", "equal w0 v0 \"\"", "alike w0 v0 v0", "order w0 \"\" v0",
            "hash w0 v0", "length w0 v0", "unit w0 v0 9", "point w0 v0 9", "before w0 v0 0", "points w0 v0 2 1",
            "offset w0 v0 -1 0", "part v1 v0 2 1", "trim v1 v0", "strip v1 v0", "repeat v1 v0 -1", "change v1 v0 -1 0",
            "replace v1 \"\" \"\" v0", "replace v1 \"\" v0 \"\"", "find w0 \"\" v0 0", "last w0 v0 \"\" 0", "seek w0 v0 1 0",
            "begins w0 \"\" v0 0", "ends w0 \"\" v0", "split v0 -1 0", "lines v0", "weave v1 v0", "upper v1 v0",
            "lower v1 v0", "open b0 v0"}) {
            kind(4, missing, name);
        }
        for (String name : new String[] {"set v1 v0", "join v1 v0", "same w0 v0 v0", "equal w0 \"\" v0", "alike w0 \"\" v0",
            "truth w0 v0"}) {
            kind(0, missing, name);
        }
        kind(2, missing, "parse w0 v0 10");
        kind(2, missing, "small w0 v0 10");
        TextLessons x = Tapes.ran("set v0 \"abc\"", "set v1 v0", "split v0 98 0", "catch w0 1", "part v1 v0 2 1",
            "catch w1 1", "split v0 -1 0");
        due("5 a refused STEP changes nothing", x.same(0, 1) + " " + x.parts() + " " + x.whole(0) + " " + x.whole(1), "1 2 1 3");
        kind(3, "repeat v0 \"0123456789\" 40", "join v1 v0 v0 @-1");
        kind(5, "repeat v0 \"0123456789\" 40", "join v1 v0 \"x\"");
        kind(0, "repeat v0 \"0123456789\" 40", "join v1 v0 \"\"");
        kind(5, "repeat v0 \"x\" 401");
        kind(5, "repeat v0 \"x\" 9223372036854775807");
        kind(0, "repeat v0 \"\" 9223372036854775807");
    }

    private static void textSteps() {
        TextLessons x = Tapes.ran("set v0 \"ab\"", "set v1 \"\\u0061b\"", "copy v2 v0", "set v3 v2", "copy v4 \"\"", "copy v5 v4",
            "null v6", "set v7 v6", "intern v8 v4", "intern v9 v2", "repeat v10 \"x\" 2", "intern v11 v10", "copy v12 v11",
            "intern v13 v12", "set v14 \"\"");
        due("5 set is T", x.same(0, 1) + " " + x.same(2, 3), "1 1");
        due("5 set of MISSING", x.length(7), -1);
        due("5 copy is new", x.same(0, 2) + " " + Tapes.text(x, 2), "0 ab");
        due("5 copy without units is new", x.same(4, 14) + " " + x.same(4, 5) + " " + x.length(4), "0 0 0");
        due("5 intern finds", x.same(8, 14) + " " + x.same(9, 0), "1 1");
        due("5 intern adds", x.same(11, 10) + " " + x.same(13, 10) + " " + x.pool(), "1 1 4");

        x = Tapes.ran("null v0", "copy v1 \"x\"", "plus w0 -3 0", "open b0 \"bu\"", "join v2 v0 v1 w0 b0 @128512 ?w0 ?0 007",
            "join v3 \"a\" \"b\"", "join v4 \"ab\"", "join v5 1 -2 @65 ?1", "join v6 \"1-2Atrue\"", "copy v7 \"\"", "join v8 v7",
            "join v9 \"\"", "join v10 \"\" v7", "set v11 \"\"", "join v12 \"q\" ?w0", "join v13 \"q\" ?1");
        due("5 join", Tapes.text(x, 2), "nullx-3bu\ud83d\ude00truefalse7");
        due("5 join of LITERALS is interned", x.same(3, 4) + " " + x.same(5, 6) + " " + x.pooled(13), "1 1 1");
        due("5 join of others is new", x.same(8, 11) + " " + x.same(8, 10) + " " + x.same(9, 11), "0 0 1");
        due("5 join with a w is not pooled", x.pooled(12) + " " + Tapes.text(x, 12), "0 qtrue");
        kind(3, "join v0 @1114112");
        kind(3, "join v0 @-1");
        kind(0, "join v0 @1114111 @0 @55296");

        x = Tapes.ran("null v0", "same w0 v0 v0", "same w1 v0 \"\"", "copy v1 \"\"", "same w2 v1 \"\"", "same w3 \"a\" \"\\u0061\"",
            "equal w4 v1 \"\"", "equal w5 \"a\" v0", "equal w6 \"a\" \"b\"", "order w7 \"abc\" \"ab\"", "order w8 \"b\" \"abc\"",
            "order w9 \"\" \"abc\"", "hash w10 \"polygenelubricants\"", "length w11 \"a\\u0000\\ud83d\\ude00\"");
        due("5 same", x.whole(0) + " " + x.whole(1) + " " + x.whole(2) + " " + x.whole(3), "1 0 0 1");
        due("5 equal", x.whole(4) + " " + x.whole(5) + " " + x.whole(6), "1 0 0");
        due("5 order", x.whole(7) + " " + x.whole(8) + " " + x.whole(9), "1 1 -3");
        due("5 hash, length", x.whole(10) + " " + x.whole(11), "-2147483648 4");
    }

    private static void placeSteps() {
        String smile = "set v0 \"a\\ud83d\\ude00\\ude00b\\ud83d\"";
        TextLessons x = Tapes.ran(smile, "unit w0 v0 0", "unit w1 v0 5", "point w2 v0 1", "point w3 v0 2", "point w4 v0 5",
            "before w5 v0 3", "before w6 v0 2", "before w7 v0 1", "before w8 v0 6", "before w9 v0 4", "point w10 v0 3");
        due("5 unit", x.whole(0) + " " + x.whole(1), "97 55357");
        due("5 point", x.whole(2) + " " + x.whole(3) + " " + x.whole(4) + " " + x.whole(10), "128512 56832 55357 56832");
        due("5 before", x.whole(5) + " " + x.whole(6) + " " + x.whole(7) + " " + x.whole(8) + " " + x.whole(9),
            "128512 55357 97 55357 56832");
        x = Tapes.ran(smile, "points w0 v0 0 6", "points w1 v0 0 2", "points w2 v0 2 3", "points w3 v0 6 6", "points w4 v0 1 3",
            "offset w5 v0 0 2", "offset w6 v0 2 1", "offset w7 v0 3 -1", "offset w8 v0 2 -2", "offset w9 v0 6 -5",
            "offset w10 v0 0 5", "offset w11 v0 6 0");
        due("5 points", x.whole(0) + " " + x.whole(1) + " " + x.whole(2) + " " + x.whole(3) + " " + x.whole(4), "5 2 1 0 1");
        due("5 offset", x.whole(5) + " " + x.whole(6) + " " + x.whole(7) + " " + x.whole(8) + " " + x.whole(9) + " " + x.whole(10)
            + " " + x.whole(11), "3 3 1 0 0 6 6");
        for (String wrong : new String[] {"unit w0 v0 -1", "unit w0 v0 6", "unit w0 v0 4294967296", "point w0 v0 -1",
            "point w0 v0 6", "before w0 v0 0", "before w0 v0 7", "points w0 v0 -1 1", "points w0 v0 2 1", "points w0 v0 0 7",
            "offset w0 v0 -1 0", "offset w0 v0 7 0", "offset w0 v0 7 -1", "offset w0 v0 0 6", "offset w0 v0 6 -6",
            "offset w0 v0 0 -1", "offset w0 v0 0 9223372036854775807", "offset w0 v0 6 -9223372036854775808",
            "part v1 v0 -1 2", "part v1 v0 2 1", "part v1 v0 0 7", "part v1 v0 4294967296 4294967297"}) {
            kind(1, smile, wrong);
        }
        kind(0, smile, "points w0 v0 0 0");
        // The first and the last of the HIGH and the LOW ones, and what is beside these.
        int[][] pairs = {{55296, 56320, 1}, {56319, 57343, 1}, {55295, 56320, 2}, {56320, 56320, 2}, {55296, 56319, 2},
            {55296, 57344, 2}};
        for (int[] pair : pairs) {
            String two = String.format("set v0 \"\\u%04x\\u%04x\"", pair[0], pair[1]);
            String units = new String(new char[] {(char) pair[0], (char) pair[1]});
            x = Tapes.ran(two, "points w0 v0 0 2", "point w1 v0 0", "before w2 v0 2", "point w3 v0 1", "before w4 v0 1",
                "seek w5 v0 w1 0", "from v1 w1", "join v2 @w1");
            due("5 PAIR " + pair[0] + " " + pair[1], x.whole(0) + " " + x.whole(1) + " " + x.whole(2) + " " + x.whole(3) + " "
                + x.whole(4) + " " + x.whole(5) + " " + Tapes.text(x, 1) + " " + Tapes.text(x, 2),
                pair[2] + " " + units.codePointAt(0) + " " + units.codePointBefore(2) + " " + pair[1] + " " + pair[0] + " 0 "
                + Character.toString(units.codePointAt(0)) + " " + Character.toString(units.codePointAt(0)));
        }
        // Units that stand beside a text in memory are none of its own.
        x = Tapes.ran("set v0 \"\\ud83d\"", "set v1 \"\\ude00\"", "point w0 v0 0", "before w1 v1 1", "points w2 v0 0 1",
            "seek w3 v0 128512 0", "offset w4 v1 1 -1");
        due("5 PAIRS are within a text", x.whole(0) + " " + x.whole(1) + " " + x.whole(2) + " " + x.whole(3) + " " + x.whole(4),
            "55357 56832 1 -1 0");
    }

    private static void changeSteps() {
        TextLessons x = Tapes.ran("set v0 \"banana\"", "part v1 v0 0 6", "part v2 v0 1 3", "part v3 v0 2 2", "set v4 \"\"",
            "repeat v5 v0 1", "repeat v6 v0 2", "repeat v7 v0 0", "change v8 v0 97 111", "change v9 v0 120 111",
            "change v10 v0 97 97", "replace v11 v0 \"ana\" \"<>\"", "replace v12 v0 \"x\" \"y\"", "replace v13 v0 \"a\" \"a\"",
            "replace v14 v0 v0 \"\"", "replace v15 \"ab\" \"\" \"-\"", "replace v16 \"\" \"\" \"-\"", "replace v17 v0 \"\" \"\"");
        due("5 part is T", x.same(0, 1), 1);
        due("5 part", Tapes.text(x, 2) + " " + x.same(3, 4), "an 1");
        due("5 repeat", x.same(5, 0) + " " + Tapes.text(x, 6) + " " + x.same(7, 4), "1 bananabanana 1");
        due("5 change", Tapes.text(x, 8) + " " + x.same(9, 0) + " " + x.same(10, 0), "bonono 1 1");
        due("5 replace", Tapes.text(x, 11) + " " + x.same(12, 0) + " " + x.same(13, 0) + Tapes.text(x, 13), "b<>na 1 0banana");
        due("5 replace all", x.same(14, 4), 1);
        due("5 replace of none", Tapes.text(x, 15) + " " + Tapes.text(x, 16) + " " + Tapes.text(x, 17) + " " + x.same(17, 0),
            "-a-b- - banana 0");
        kind(3, "repeat v0 \"\" -1");
        kind(3, "change v0 \"\" -1 0");
        kind(3, "change v0 \"\" 0 65536");
        kind(0, "change v0 \"\" 65535 0");
        kind(5, "repeat v0 \"x\" 400", "replace v1 v0 \"x\" \"yy\"");
        kind(5, "repeat v0 \"x\" 400", "replace v1 v0 \"\" v0");
        kind(0, "repeat v0 \"x\" 400", "replace v1 v0 \"xx\" \"yy\"");

        x = Tapes.ran("set v0 \" \\u0000\\u0020a\\u00a0\\n\"", "trim v1 v0", "set v2 \"a\\u2003\"", "trim v3 v2", "trim v4 \" \\t\"",
            "set v5 \"\"", "copy v6 v5", "trim v7 v6", "strip v8 \"\\u001c\\u2028a\\u3000\\u205f\\u1680\\u2029\"",
            "set v9 \"\\u2007a\\u00a0\"", "strip v10 v9", "strip v11 \"\\u2000\\u200a\"", "strip v12 v6",
            "set v13 \"\\u000ea\\u001b\"", "strip v14 v13", "set v15 \"\\u200ba\\u0008\"", "strip v16 v15");
        due("5 trim", Tapes.text(x, 1) + " " + x.same(3, 2) + " " + x.same(4, 5) + " " + x.same(7, 6), "a\u00a0 1 1 1");
        due("5 strip", Tapes.text(x, 8) + " " + x.same(10, 9) + " " + x.same(11, 5) + " " + x.same(12, 6), "a 1 1 1");
        due("5 strip stays", x.same(14, 13) + " " + x.same(16, 15), "1 1");
    }

    private static void caseSteps() {
        TextLessons all = new TextLessons();
        for (int u = 0; u < 65536; u++) {
            Tapes.compile(all, String.format("set v0 \"\\u%04x\"\nupper v1 v0\nlower v2 v0\ntrim v3 v0\nstrip v4 v0", u));
            all.run();
            String unit = String.valueOf((char) u);
            String upper = u < 384 ? unit.toUpperCase(java.util.Locale.ROOT) : unit;
            String lower = u < 384 ? unit.toLowerCase(java.util.Locale.ROOT) : unit;
            due("5 upper of " + u, Tapes.text(all, 1) + all.same(1, 0), upper + (upper.equals(unit) ? 1 : 0));
            due("5 lower of " + u, Tapes.text(all, 2) + all.same(2, 0), lower + (lower.equals(unit) ? 1 : 0));
            due("5 trim of " + u, all.length(3), u <= 32 ? 0 : 1);
            due("5 strip of " + u, all.length(4), Character.isWhitespace(u) ? 0 : 1);
        }
        // Only the units that the document tells change.
        TextLessons x = Tapes.ran("set v0 \"\\u03b1\\u0416\\u01c4\\uff21\\u1e9e\"", "upper v1 v0", "lower v2 v0");
        due("5 others stay", x.same(0, 1) + " " + x.same(0, 2), "1 1");
        alike(1, "\\u0130", "i");
        alike(1, "\\u0130", "\\u0131");
        alike(1, "\\u0131", "I");
        alike(1, "\\u017f", "s");
        alike(1, "\\u00b5", "\\u039c");
        alike(0, "\\u00b5", "\\u03bc");
        alike(1, "\\u00ff", "\\u0178");
        alike(0, "\\u00df", "s");
        alike(0, "\\u00df", "ss");
        alike(0, "\\u0149", "\\u02bc");
        alike(0, "a", "aa");
        alike(1, "", "");
        alike(0, "\\u00d7", "\\u00f7");
        alike(1, "\\u0147", "\\u0148");
        alike(0, "\\u0137", "\\u0138");
        kind(5, "repeat v0 \"\\u00df\" 201", "upper v1 v0");
        kind(0, "repeat v0 \"\\u00df\" 200", "upper v1 v0");
        x = Tapes.ran("null v0", "truth w0 \"TruE\"", "truth w1 \"true \"", "truth w2 v0", "truth w3 \"\"", "truth w4 \"tru\\u0065\"", "truth w5 \"xrue\"",
            "truth w6 \"trux\"");
        due("5 truth", x.whole(0) + " " + x.whole(1) + " " + x.whole(2) + " " + x.whole(3) + " " + x.whole(4) + " " + x.whole(5) + " "
            + x.whole(6), "1 0 0 0 1 0 0");
    }

    private static void alike(int want, String a, String b) {
        TextLessons x = Tapes.ran("alike w0 \"" + a + "\" \"" + b + "\"", "alike w1 \"" + b + "\" \"" + a + "\"");
        due("5 alike " + a + " " + b, x.whole(0) + " " + x.whole(1), want + " " + want);
    }

    /** What a STEP gives to w0. */
    private static void gives(long want, String step) {
        TextLessons x = Tapes.ran(step);
        due("5 " + step + (x.ended(1) == 0 ? "" : " refused"), x.whole(0), want);
    }

    private static void searchSteps() {
        gives(2, "find w0 \"abab\" \"ab\" 1");
        gives(0, "find w0 \"abab\" \"ab\" -9");
        gives(-1, "find w0 \"abab\" \"ab\" 3");
        gives(-1, "find w0 \"abab\" \"ab\" 9");
        gives(4, "find w0 \"abab\" \"\" 9");
        gives(4, "find w0 \"abab\" \"\" 9223372036854775807");
        gives(3, "find w0 \"abab\" \"\" 3");
        gives(0, "find w0 \"abab\" \"\" -1");
        gives(-1, "find w0 \"ab\" \"aba\" 0");
        gives(2, "last w0 \"abab\" \"ab\" 9");
        gives(0, "last w0 \"abab\" \"ab\" 1");
        gives(0, "last w0 \"abab\" \"ab\" 0");
        gives(-1, "last w0 \"abab\" \"ab\" -1");
        gives(-1, "last w0 \"abab\" \"\" -1");
        gives(4, "last w0 \"abab\" \"\" 9");
        gives(2, "last w0 \"abab\" \"\" 2");
        gives(1, "seek w0 \"aba\" 98 0");
        gives(2, "seek w0 \"aba\" 97 1");
        gives(-1, "seek w0 \"aba\" 97 3");
        gives(0, "seek w0 \"aba\" 97 -3");
        gives(-1, "seek w0 \"aba\" -1 0");
        gives(-1, "seek w0 \"aba\" 1114112 0");
        gives(-1, "seek w0 \"aba\" 4294967393 0");
        gives(1, "seek w0 \"a\\ud83d\\ude00\" 128512 0");
        gives(-1, "seek w0 \"a\\ud83d\\ude00\" 128512 2");
        gives(1, "seek w0 \"a\\ud83d\\ude00\" 55357 0");
        gives(2, "seek w0 \"a\\ud83d\\ude00\" 56832 0");
        gives(1, "begins w0 \"abab\" \"ab\" 2");
        gives(0, "begins w0 \"abab\" \"ab\" 1");
        gives(0, "begins w0 \"abab\" \"ab\" 3");
        gives(0, "begins w0 \"abab\" \"ab\" -1");
        gives(1, "begins w0 \"abab\" \"\" 4");
        gives(0, "begins w0 \"abab\" \"\" 5");
        gives(0, "begins w0 \"abab\" \"ab\" 4294967296");
        gives(1, "ends w0 \"abab\" \"bab\"");
        gives(0, "ends w0 \"abab\" \"a\"");
        gives(1, "ends w0 \"abab\" \"\"");
        gives(0, "ends w0 \"ab\" \"abab\"");
    }

    private static void partsAre(String want, String... lines) {
        TextLessons x = Tapes.ran(lines);
        due("5 " + String.join("/", lines), x.parts() + ":" + Tapes.parts(x), want);
    }

    private static void partSteps() {
        partsAre("6:|a||b||", "split \",a,,b,,\" 44 -1");
        partsAre("4:|a||b", "split \",a,,b,,\" 44 0");
        partsAre("2:|a,,b,,", "split \",a,,b,,\" 44 2");
        partsAre("1:,a,,b,,", "split \",a,,b,,\" 44 1");
        partsAre("6:|a||b||", "split \",a,,b,,\" 44 9223372036854775807");
        partsAre("6:|a||b||", "split \",a,,b,,\" 44 -9223372036854775808");
        partsAre("0:", "split \",,\" 44 0");
        partsAre("1:", "split \"\" 44 0");
        partsAre("1:", "split \"\" 44 -1");
        partsAre("1:abc", "split \"abc\" 44 0");
        partsAre("2:a|\ude00", "split \"a\\ud83d\\ude00\" 55357 0");
        partsAre("4:x|y||z", "lines \"x\\u000d\\ny\\n\\u000dz\"");
        partsAre("2:x|", "lines \"x\\n\\n\"");
        partsAre("2:x|y", "lines \"x\\u000dy\"");
        partsAre("3:x||y", "lines \"x\\n\\u000dy\"");
        partsAre("0:", "lines \"\"");
        partsAre("1:", "lines \"\\u000d\\n\"");
        partsAre("1:a\u0085b", "lines \"a\\u0085b\"");
        kind(3, "split \"a\" -1 0");
        kind(3, "split \"a\" 65536 0");
        kind(0, "split \"a\" 65535 0");
        kind(5, "repeat v0 \",\" 24", "split v0 44 -1");
        kind(0, "repeat v0 \",\" 23", "split v0 44 -1");
        kind(0, "repeat v0 \",\" 400", "split v0 44 0");
        kind(0, "repeat v0 \",\" 400", "split v0 44 24");
        kind(5, "repeat v0 \",\" 400", "split v0 44 25");
        kind(5, "repeat v0 \"\\n\" 25", "lines v0");
        kind(0, "repeat v0 \"\\n\" 24", "lines v0");

        TextLessons x = Tapes.ran("set v0 \"a,,b\"", "pieces w0", "split v0 44 -1", "pieces w1", "piece v1 0", "piece v2 1",
            "set v3 \"\"", "weave v4 \"--\"", "weave v5 \"\"", "split v0 120 0", "piece v6 0", "weave v7 \"-\"", "split \",\" 44 0",
            "weave v8 \"-\"", "lines v0", "piece v9 0", "copy v10 \"\"", "split v10 44 0", "piece v11 0");
        due("5 pieces", x.whole(0) + " " + x.whole(1), "0 3");
        due("5 piece", Tapes.text(x, 1) + " " + x.same(2, 3), "a 1");
        due("5 weave", Tapes.text(x, 4) + " " + Tapes.text(x, 5) + " " + x.same(8, 3), "a----b ab 1");
        due("5 a PART that is all of T", x.same(6, 0) + " " + x.same(9, 0) + " " + x.same(11, 10), "1 1 1");
        due("5 weave of one is new", x.same(7, 0) + " " + Tapes.text(x, 7), "0 a,,b");
        kind(1, "piece v0 0");
        kind(1, "split \"a\" 44 0", "piece v0 -1");
        kind(1, "split \"a\" 44 0", "piece v0 1");
        kind(1, "split \"a\" 44 0", "piece v0 4294967296");
        kind(5, "repeat v0 \"x\" 400", "split \"a,\" 44 -1", "weave v1 v0");
        kind(0, "repeat v0 \"x\" 399", "split \"a,\" 44 -1", "weave v1 v0");
    }

    /** The units and the ROOM of b0 behind some STEPS. */
    private static void builds(String want, String... lines) {
        TextLessons x = Tapes.ran(lines);
        due("5 " + String.join("/", lines) + (x.ended(1) == 0 ? "" : " refused"), Tapes.builder(x, 0) + ":" + x.builder(0, 1), want);
    }

    private static void builderSteps() {
        builds(":0", "fresh b0 0");
        builds(":400", "fresh b0 400");
        builds("abc:19", "open b0 \"abc\"");
        builds(":16", "open b0 \"\"");
        builds("a:2", "fresh b0 0", "add b0 \"a\"");
        builds("abc:3", "fresh b0 0", "add b0 \"abc\"");
        builds("abc:3", "fresh b0 3", "add b0 \"abc\"");
        builds("abcd:8", "fresh b0 3", "add b0 \"abc\"", "add b0 \"d\"");
        builds("-5true\ud83d\ude00null:16", "fresh b0 16", "null v0", "add b0 -5", "add b0 ?1", "add b0 @128512", "add b0 v0");
        builds("abab:18", "open b0 \"ab\"", "add b0 b0");
        builds("xaby:18", "open b0 \"ab\"", "insert b0 0 \"x\"", "insert b0 3 \"y\"");
        builds("a12b:18", "open b0 \"ab\"", "insert b0 1 12");
        builds("aabb:18", "open b0 \"ab\"", "insert b0 1 b0");
        builds("ad:20", "open b0 \"abcd\"", "delete b0 1 3");
        builds("a:20", "open b0 \"abcd\"", "delete b0 1 9223372036854775807");
        builds("abcd:20", "open b0 \"abcd\"", "delete b0 4 9");
        builds("aXc:19", "open b0 \"abc\"", "put b0 1 88");
        builds("cba:19", "open b0 \"abc\"", "turn b0");
        builds("b\ud83d\ude00a:20", "open b0 \"a\\ud83d\\ude00b\"", "turn b0");
        builds("\ud83d\ude00:18", "open b0 \"\\ude00\\ud83d\"", "turn b0");
        builds("\ud83d\ude00\ude00:19", "open b0 \"\\ude00\\ud83d\\ude00\"", "turn b0");
        builds("ab:20", "open b0 \"abcd\"", "size b0 2");
        builds("ab\0:18", "open b0 \"ab\"", "size b0 3");
        builds("ab\0:6", "fresh b0 2", "add b0 \"ab\"", "size b0 3");
        builds(":18", "open b0 \"ab\"", "size b0 0");
        builds("ab\0\0:18", "open b0 \"abcd\"", "size b0 2", "size b0 4", "fresh b0 2", "open b0 \"ab\"", "size b0 4");
        kind(3, "fresh b0 -1");
        kind(3, "fresh b0 401");
        kind(1, "open b0 \"ab\"", "insert b0 -1 @-1");
        kind(1, "open b0 \"ab\"", "insert b0 3 \"\"");
        kind(3, "open b0 \"ab\"", "insert b0 2 @-1");
        kind(3, "open b0 \"ab\"", "add b0 @1114112");
        kind(1, "open b0 \"ab\"", "delete b0 -1 1");
        kind(1, "open b0 \"ab\"", "delete b0 2 1");
        kind(1, "open b0 \"ab\"", "delete b0 3 4");
        kind(1, "open b0 \"ab\"", "delete b0 0 -1");
        kind(1, "open b0 \"ab\"", "put b0 2 -1");
        kind(1, "open b0 \"ab\"", "put b0 -1 65");
        kind(3, "open b0 \"ab\"", "put b0 1 65536");
        kind(3, "open b0 \"ab\"", "put b0 1 -1");
        kind(1, "open b0 \"ab\"", "size b0 -1");
        kind(5, "open b0 \"ab\"", "size b0 401");
        kind(0, "open b0 \"ab\"", "size b0 400");
        kind(5, "open b0 \"ab\"", "size b0 400", "add b0 \"x\"");
        kind(0, "open b0 \"ab\"", "size b0 400", "add b0 \"\"");
        kind(5, "open b0 \"ab\"", "size b0 400", "insert b0 0 1");
        kind(1, "open b0 \"ab\"", "size b0 400", "insert b0 401 1");

        TextLessons x = Tapes.ran("open b0 \"ab\"", "text v0 b0", "turn b0", "text v1 b0", "fresh b1 7", "text v2 b1", "set v3 \"\"",
            "room w0 b1", "room w1 b0", "first w2 b0 b1", "first w3 b1 b0", "open b2 \"bb\"", "first w4 b0 b2", "first w5 b0 b0",
            "set v4 \"ab\"");
        due("5 text", Tapes.text(x, 0) + " " + Tapes.text(x, 1) + " " + x.same(2, 3) + " " + x.same(0, 4), "ab ba 1 0");
        due("5 room", x.whole(0) + " " + x.whole(1), "7 18");
        due("5 first", x.whole(2) + " " + x.whole(3) + " " + x.whole(4) + " " + x.whole(5), "2 -2 -1 0");
    }

    private static void numberSteps() {
        TextLessons x = Tapes.ran("from v0 97 128512 0 65535", "from v1 55357 56832", "number v2 -255 16", "number v3 255 37",
            "number v4 255 1", "number v5 -9223372036854775808 2", "number v6 9223372036854775807 36", "number v7 0 2",
            "number v8 -12 4294967306");
        due("5 from", Tapes.text(x, 0) + Tapes.text(x, 1), "a\ud83d\ude00\0\uffff\ud83d\ude00");
        due("5 number", Tapes.text(x, 2) + " " + Tapes.text(x, 3) + " " + Tapes.text(x, 4), "-ff 255 255");
        due("5 number of the least", Tapes.text(x, 5), "-1" + "0".repeat(63));
        due("5 number", Tapes.text(x, 6) + " " + Tapes.text(x, 7) + " " + Tapes.text(x, 8), "1y2p0ij32e8e7 0 -12");
        TextLessons all = new TextLessons();
        for (int point = 0; point <= 1114111; point += point < 65000 ? 1009 : 337) {
            Tapes.compile(all, "from v0 " + point + "\npoint w0 v0 0\nseek w1 v0 " + point + " 0");
            all.run();
            due("5 from " + point, Tapes.text(all, 0) + all.whole(0) + all.whole(1), Character.toString(point) + point + "0");
        }
        kind(3, "from v0 97 -1");
        kind(3, "from v0 1114112 97");
        gives(255, "parse w0 \"fF\" 16");
        gives(-35, "parse w0 \"-z\" 36");
        gives(5, "parse w0 \"101\" 2");
        gives(7, "parse w0 \"+0007\" 8");
        gives(Long.MAX_VALUE, "parse w0 \"9223372036854775807\" 10");
        gives(Long.MIN_VALUE, "parse w0 \"-9223372036854775808\" 10");
        gives(Integer.MAX_VALUE, "small w0 \"2147483647\" 10");
        gives(Integer.MIN_VALUE, "small w0 \"-2147483648\" 10");
        gives(0, "small w0 \"-0\" 10");
        for (String wrong : new String[] {"parse w0 \"9223372036854775808\" 10", "parse w0 \"-9223372036854775809\" 10",
            "parse w0 \"+\" 10", "parse w0 \"-\" 10", "parse w0 \"\" 10", "parse w0 \" 1\" 10", "parse w0 \"1 \" 10",
            "parse w0 \"--1\" 10", "parse w0 \"+-1\" 10", "parse w0 \"2\" 2", "parse w0 \"a\" 10", "parse w0 \"1\" 1",
            "parse w0 \"1\" 37", "parse w0 \"1\" 4294967306", "parse w0 \"\\uff11\" 10", "parse w0 \"\\u0661\" 10",
            "small w0 \"2147483648\" 10", "small w0 \"-2147483649\" 10", "small w0 \"99999999999999999999\" 10"}) {
            kind(2, wrong);
        }
        gives(Long.MIN_VALUE, "plus w0 9223372036854775807 1");
        gives(Long.MAX_VALUE, "minus w0 -9223372036854775808 1");
        gives(Long.MIN_VALUE, "times w0 -9223372036854775808 -1");
        gives(-6, "times w0 2 -3");
    }

    private static void ended() {
        TextLessons x = Tapes.ran("catch w0 2", "mark 1", "piece v0 0", "if 0 1", "mark 2", "if 1 1", "mark 3", "fresh b0 -1", "mark 4");
        due("6 ended", x.ended(0) + " " + x.ended(1) + " " + x.ended(2) + " " + x.ended(3), "7 3 5 2");
        due("6 another what", x.ended(-1) + " " + x.ended(4) + " " + x.ended(Integer.MAX_VALUE), "-1 -1 -1");
        x.run();
        due("6 of the latest run", x.ended(2) + " " + x.ended(3), "5 2");
        x = Tapes.ran("mark 1");
        due("6 no refusal", x.ended(0) + " " + x.ended(1) + " " + x.ended(2) + " " + x.ended(3), "-1 0 1 0");
    }

    private static void done() {
        TextLessons x = Tapes.ran("catch w0 2", "mark 1", "piece v0 0", "if 0 1", "mark 2", "mark 3");
        due("7 done", x.done(54) + " " + x.done(55) + " " + x.done(29) + " " + x.done(53) + " " + x.done(0), "1 2 0 1 0");
        due("7 another number", x.done(-1) + " " + x.done(56), "-1 -1");
        x.run();
        due("7 of the latest run", x.done(55), 2);
    }

    private static void step() {
        TextLessons x = Tapes.ran("mark 1", "join v0 1 2 3", "pieces w0", "set v1 \"a b\"");
        due("8 sorts", x.step(0, 0) + " " + x.step(1, 0) + " " + x.step(2, 0) + " " + x.step(3, 0), "55 4 30 0");
        due("8 words", x.step(0, 1) + " " + x.step(1, 1) + " " + x.step(2, 1) + " " + x.step(3, 1), "1 4 1 2");
        due("8 wrong", x.step(-1, 0) + " " + x.step(4, 0) + " " + x.step(4, 1) + " " + x.step(0, 2) + " " + x.step(0, -1),
            "-1 -1 -1 -1 -1");
        String given = "set v0 \"\"\nfresh b0 1\n";
        for (int sort = 0; sort < 56; sort++) {
            StringBuilder line = new StringBuilder(Model.NAMES.get(sort));
            for (String letter : Model.SHAPES.get(sort)) {
                line.append(' ').append(switch (letter) {
                    case "T" -> "\"\"";
                    case "W", "X", "{X}", "{W}", "N" -> "0";
                    default -> letter + "0";
                });
            }
            TextLessons y = new TextLessons();
            due("8 compile of sort " + sort, Tapes.compile(y, given + line), 3);
            due("8 sort " + sort, y.step(2, 0), sort);
            due("8 spelled of sort " + sort, Tapes.spelled(y, 2), line.toString());
        }
    }

    private static void spelled() {
        TextLessons x = new TextLessons();
        Tapes.compile(x, "plus  w11 -000 0007 \n  join v0 \"\\u0041\\u000A\\n\\t\\u0009 \\u007E\\u007f\\\"\\u0022\\\\\\u005C\\uABcd\" @w11 @-07 ?w11 ?00"
            + "\nif 1 01\nmark -9223372036854775808\nset v0 \"\"");
        due("9 numbers", Tapes.spelled(x, 0), "plus w11 0 7");
        due("9 LITERALS", Tapes.spelled(x, 1),
            "join v0 \"A\\n\\n\\t\\t ~\\u007f\\\"\\\"\\\\\\\\\\uabcd\" @w11 @-7 ?w11 ?0");
        due("9 N", Tapes.spelled(x, 2), "if 1 1");
        due("9 the least", Tapes.spelled(x, 3), "mark -9223372036854775808");
        due("9 none", Tapes.spelled(x, 4), "set v0 \"\"");
        due("9 bytes", x.spelled(0, 0) + " " + x.spelled(0, 4) + " " + x.spelled(0, 11), "112 32 55");
        due("9 wrong", x.spelled(0, 12) + " " + x.spelled(0, -1) + " " + x.spelled(-1, 0) + " " + x.spelled(5, 0) + " "
            + x.spelled(0, Integer.MAX_VALUE) + " " + x.spelled(0, Integer.MIN_VALUE), "-1 -1 -1 -1 -1 -1");
    }

    // ---- promise 10

    private static void shrunk(String want, String... lines) {
        TextLessons x = Tapes.ran(lines);
        int steps = x.shrink();
        due("10 shrink of " + String.join("/", lines), Tapes.allSpelled(x), want);
        due("10 its STEPS", steps, want.split("/").length);
        due("10 it was run last", x.ended(2) + x.ended(3) <= steps && x.ended(1) > 0 ? 1 : 0, 1);
        due("10 it runs so again", x.run(), 1 + x.ended(0));
    }

    private static void shrink() {
        due("10 NO run", new TextLessons().shrink(), -2);
        due("10 not refused", Tapes.ran("mark 1").shrink(), -2);
        due("10 not refused at last", Tapes.ran("catch w0 1", "piece v0 0").shrink(), -2);
        TextLessons x = Tapes.ran("piece v0 0");
        Tapes.compile(x, "piece v0 0");
        due("10 not since compile", x.shrink(), -2);
        shrunk("piece v0 0", "mark 1", "set v1 \"a\"", "piece v0 0", "mark 2");
        shrunk("null v0/length w0 v0", "set v0 \"a\"", "null v0", "set v1 v0", "length w0 v0", "mark w0");
        shrunk("null v0/set v1 v0/length w0 v1", "null v0", "set v1 v0", "length w0 v1");
        // The first of two refusals may be left out for the other's sake.
        shrunk("piece v0 0", "piece v0 0", "piece v1 0");
        x = Tapes.ran("set v0 \"a\"", "mark 5", "unit w0 v0 1", "set v2 \"b\"");
        due("10 the POOL before", x.pool(), 3);
        due("10 two are left", x.shrink() + " " + Tapes.allSpelled(x), "2 set v0 \"a\"/unit w0 v0 1");
        due("10 the POOL has the LITERALS that are left", x.pool(), 2);
        due("10 the run", x.ended(0) + " " + x.ended(1) + " " + x.ended(2) + " " + x.ended(3) + " " + x.marks(), "1 1 1 1 0");
        due("10 again", x.shrink(), 2);
        due("10 a STEP beyond", x.step(2, 0), -1);
        Tapes.compile(x, "mork");
        due("10 behind a FAULT", x.shrink(), 2);
    }

    private static void shrinkKeepsKindAndRanges() {
        // Leaving out the catch brings another KIND; leaving out its RANGE's STEP as well does not.
        shrunk("piece v0 0", "catch w0 2", "mark 1", "fresh b0 -1", "piece v0 0");
        shrunk("piece v0 0", "if 1 3", "mark 1", "catch w0 0", "piece v0 0");
        shrunk("catch w0 1/fresh b0 -1/unit w1 \"abc\" w0", "catch w0 2", "mark 1", "fresh b0 -1", "unit w1 \"abc\" w0");
        shrunk("catch w0 1/fresh b0 -1/catch w1 1/unit w2 \"a\" w0/plus w3 w0 w1/unit w4 \"abcd\" w3",
            "if 1 7", "catch w0 1", "fresh b0 -1", "mark 8", "catch w1 1", "unit w2 \"a\" w0", "plus w3 w0 w1", "unit w4 \"abcd\" w3");
        // A LITERAL of a STEP that is left out is no more in the POOL.
        shrunk("copy v0 \"ab\"/join v1 \"a\" \"b\"/same w0 v0 v1/unit w1 \"\" w0",
            "copy v0 \"ab\"", "join v1 \"a\" \"b\"", "same w0 v0 v1", "unit w1 \"\" w0");
        TextLessons x = Tapes.ran("if 1 2", "if 1 1", "mark 1", "plus w0 0 5", "if w0 1", "unit w1 \"abc\" w0");
        due("10 RANGES", x.shrink() + " " + Tapes.allSpelled(x), "2 plus w0 0 5/unit w1 \"abc\" w0");
        x = Tapes.ran("repeat v0 \"0123456789\" 40", "plus w0 1 1", "catch w1 2", "mark w0", "join v1 v0 v0", "if w1 1", "repeat v2 v0 w1");
        // The catch stays: without it w1 is not GIVEN, and with it the last STEP is the one refused.
        due("10 ROOM", x.shrink() + " " + Tapes.allSpelled(x),
            "4 repeat v0 \"0123456789\" 40/catch w1 1/join v1 v0 v0/repeat v2 v0 w1");
    }

    // ---- promises 11 to 24

    private static void textAnswers() {
        TextLessons x = Tapes.ran("set v0 \"ab\\uffff\"", "set v19 \"\"", "null v1");
        due("11 length", x.length(0) + " " + x.length(19) + " " + x.length(1) + " " + x.length(2), "3 0 -1 -1");
        due("11 none such", x.length(-1) + " " + x.length(20) + " " + x.length(Integer.MIN_VALUE), "-1 -1 -1");
        due("12 unit", x.unit(0, 0) + " " + x.unit(0, 2), "97 65535");
        due("12 none", x.unit(0, 3) + " " + x.unit(0, -1) + " " + x.unit(19, 0) + " " + x.unit(1, 0) + " " + x.unit(-1, 0) + " "
            + x.unit(20, 0) + " " + x.unit(0, Integer.MAX_VALUE), "-1 -1 -1 -1 -1 -1 -1");
        due("13 hash", x.hash(0), "ab\uffff".hashCode());
        due("13 of none", x.hash(19) + " " + x.hash(1) + " " + x.hash(-1) + " " + x.hash(20), "0 0 0 0");
        due("13 wraps", Tapes.ran("set v0 \"polygenelubricants\"").hash(0), Integer.MIN_VALUE);
    }

    private static void sameAndPool() {
        TextLessons x = Tapes.ran("set v0 \"ab\"", "set v1 v0", "copy v2 v0", "null v3", "set v4 \"\"", "trim v5 \" \"", "intern v6 v2");
        due("14 same", x.same(0, 1) + " " + x.same(0, 0) + " " + x.same(0, 2) + " " + x.same(4, 5) + " " + x.same(0, 6), "1 1 0 1 1");
        due("14 MISSING", x.same(3, 3) + " " + x.same(3, 7) + " " + x.same(0, 3), "0 0 0");
        due("14 none such", x.same(-1, 0) + " " + x.same(0, 20) + " " + x.same(20, 20), "-1 -1 -1");
        due("15 pooled", x.pooled(0) + " " + x.pooled(2) + " " + x.pooled(4) + " " + x.pooled(5), "1 0 1 1");
        due("15 none", x.pooled(3) + " " + x.pooled(-1) + " " + x.pooled(20), "-1 -1 -1");
        due("16 pool", x.pool(), 3);
        x = Tapes.ran("set v0 \"\"", "set v1 \"a\"", "set v2 \"\\u0061\"", "join v3 \"a\" 1", "join v4 \"a1\"", "join v5 v1 2",
            "intern v6 v5");
        due("16 EQUAL ones are one", x.pool(), 4);
        x.run();
        due("16 a new run has a new POOL", x.pool(), 4);
    }

    private static void wholes() {
        TextLessons x = Tapes.ran("plus w0 9223372036854775807 0", "plus w11 -1 -1", "if 0 1", "plus w1 1 1");
        due("17 whole", x.whole(0), Long.MAX_VALUE);
        due("17 whole", x.whole(11), -2);
        due("17 not given", x.whole(1), 0);
        due("17 none such", x.whole(-1) + " " + x.whole(12), "0 0");
    }

    private static void builders() {
        TextLessons x = Tapes.ran("open b0 \"ab\"", "fresh b5 400", "if 0 1", "fresh b1 1");
        due("18 builder", x.builder(0, 0) + " " + x.builder(0, 1) + " " + x.builder(5, 0) + " " + x.builder(5, 1), "2 18 0 400");
        due("18 none", x.builder(1, 0) + " " + x.builder(-1, 0) + " " + x.builder(6, 0) + " " + x.builder(0, 2) + " "
            + x.builder(0, -1), "-1 -1 -1 -1 -1");
        due("19 builderUnit", x.builderUnit(0, 0) + " " + x.builderUnit(0, 1), "97 98");
        due("19 none", x.builderUnit(0, 2) + " " + x.builderUnit(0, -1) + " " + x.builderUnit(5, 0) + " " + x.builderUnit(1, 0)
            + " " + x.builderUnit(-1, 0) + " " + x.builderUnit(6, 0), "-1 -1 -1 -1 -1 -1");
        x.run();
        due("18 a new run has new ones", x.builder(0, 0), 2);
    }

    private static void parts() {
        TextLessons x = Tapes.ran("split \"a,,bc\" 44 -1", "piece v3 2", "piece v5 2", "trim v4 \" \"");
        due("20 parts", x.parts(), 3);
        due("21 partUnit", x.partUnit(0, 0) + " " + x.partUnit(2, 0) + " " + x.partUnit(2, 1), "97 98 99");
        due("21 none", x.partUnit(0, 1) + " " + x.partUnit(1, 0) + " " + x.partUnit(0, -1) + " " + x.partUnit(-1, 0) + " "
            + x.partUnit(3, 0), "-1 -1 -1 -1 -1");
        due("22 partOf", x.partOf(2) + " " + x.partOf(1), "3 4");
        due("22 none", x.partOf(0) + " " + x.partOf(-1) + " " + x.partOf(3), "-1 -1 -1");
        due("20 the latest ones", Tapes.ran("split \"a,,bc\" 44 -1", "lines \"\"").parts(), 0);
    }

    private static void marks() {
        String[] lines = new String[31];
        for (int i = 0; i < 31; i++) {
            lines[i] = "mark " + (i - 5);
        }
        TextLessons x = Tapes.ran(lines);
        due("23 a 31st is refused", x.ended(0) + " " + x.ended(1), "30 5");
        due("23 marks", x.marks(), 30);
        due("24 mark", x.mark(0) + " " + x.mark(29), "-5 24");
        due("24 none such", x.mark(30) + " " + x.mark(-1) + " " + x.mark(31), "0 0 0");
        due("24 64 bits", Tapes.ran("mark -9223372036854775808").mark(0), Long.MIN_VALUE);
    }
}
