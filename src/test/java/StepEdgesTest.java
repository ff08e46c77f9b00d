/** The edges that the document's Terms name of each STEP by itself. */
public final class StepEdgesTest {
    private static final Edges EDGES = new Edges("StepEdgesTest");
    private static final String X400 = "repeat v0 \"x\" 400";
    /** a, a PAIR, its LOW one again, b, its HIGH one: six units, five POINTS. */
    private static final String SIX = "set v0 \"a\\ud83d\\ude00\\ude00b\\ud83d\"";

    public static void main(String[] args) {
        words();
        objects();
        joins();
        joinsOfXs();
        compares();
        places();
        points();
        offsets();
        parts();
        trims();
        repeats();
        changes();
        replaces();
        cases();
        finds();
        seeks();
        standsAt();
        splits();
        lines();
        pieces();
        makesBuilders();
        changesBuilders();
        turns();
        sizes();
        readsBuilders();
        fromAndNumber();
        parses();
        marks();
        EDGES.end();
    }

    /** v1 is a new object without units, which is not EMPTY. */
    private static void isNewWithoutUnits(String... lines) {
        TextLessons x = EDGES.fine(lines);
        EDGES.due("length of " + String.join("/", lines), x.length(1), 0);
        EDGES.due("pooled of " + String.join("/", lines), x.pooled(1), 0);
    }

    /** STEPS whose words have all other numbers, so that none can be taken for another. */
    private static void words() {
        EDGES.says("its NAME, then what it has, as told.");
        String given = "plus w1 1 0\nplus w2 2 0\nset v3 \"abcabc\"\nset v4 \"bc\"\nset v5 \"X\"\nopen b1 \"hello\"\nopen b2 \"help\"\n"
            + "fresh b3 7\nplus w3 98 0\nplus w4 -1 0\n";
        String[][] wholes = {{"same w9 v3 v3", "1"}, {"equal w9 v3 v4", "0"}, {"alike w9 v5 \"x\"", "1"}, {"order w9 v3 v4", "-1"},
            {"hash w9 v4", "3137"}, {"length w9 v4", "2"}, {"unit w9 v3 w1", "98"}, {"point w9 v3 w2", "99"}, {"before w9 v3 w2", "98"},
            {"points w9 v3 w1 w2", "1"}, {"offset w9 v3 w1 w2", "3"}, {"find w9 v3 v4 w2", "4"}, {"last w9 v3 v4 w2", "1"},
            {"seek w9 v3 w3 w2", "4"}, {"begins w9 v3 v4 w1", "1"}, {"ends w9 v3 v4", "1"}, {"pieces w9", "0"}, {"room w9 b3", "7"},
            {"first w9 b1 b2", "-4"}, {"first w9 b2 b1", "4"}, {"parse w9 \"11\" w2", "3"}, {"small w9 \"-10\" w2", "-2"},
            {"truth w9 v3", "0"}, {"plus w9 w1 w2", "3"}, {"minus w9 w1 w2", "-1"}, {"times w9 w3 w2", "196"}};
        for (String[] whole : wholes) {
            EDGES.due(whole[0], Long.toString(EDGES.fine(given + whole[0]).whole(9)), whole[1]);
        }
        String[][] texts = {{"set v9 v4", "bc"}, {"copy v9 v4", "bc"}, {"intern v9 v4", "bc"}, {"join v9 v4 w2 b1 @w3 ?w1", "bc2hellobtrue"},
            {"part v9 v3 w1 w2", "b"}, {"trim v9 v4", "bc"}, {"strip v9 v4", "bc"}, {"repeat v9 v4 w2", "bcbc"},
            {"change v9 v3 w3 w1", "a\u0001ca\u0001c"}, {"replace v9 v3 v4 v5", "aXaX"}, {"upper v9 v4", "BC"}, {"lower v9 v5", "x"},
            {"text v9 b1", "hello"}, {"text v9 b2", "help"}, {"from v9 w3 w1", "b\u0001"}, {"number v9 w3 w2", "1100010"},
            {"split v3 w3 w4\npiece v9 w2", "c"}, {"split v3 w3 w2\nweave v9 v5", "aXcabc"}, {"lines v4\npiece v9 0", "bc"}};
        for (String[] text : texts) {
            EDGES.due(text[0], Tapes.text(EDGES.fine(given + text[0]), 9), text[1]);
        }
        String[][] builders = {{"fresh b2 w2", ":2"}, {"open b2 v4", "bc:18"}, {"add b2 v4", "helpbc:20"}, {"insert b2 w1 v4", "hbcelp:20"},
            {"insert b2 w1 b1", "hhelloelp:20"}, {"delete b2 w1 w2", "hlp:20"}, {"put b2 w1 w3", "hblp:20"}, {"turn b2", "pleh:20"},
            {"size b2 w1", "h:20"}};
        for (String[] builder : builders) {
            TextLessons x = EDGES.fine(given + builder[0]);
            EDGES.due(builder[0], Tapes.builder(x, 2) + ":" + x.builder(2, 1), builder[1]);
            EDGES.due("another one, by " + builder[0], Tapes.builder(x, 1) + ":" + x.builder(1, 1), "hello:21");
        }
    }

    private static void objects() {
        EDGES.says("\"is T\" means T's own object; \"becomes ..\" a new object, but EMPTY if it has no units.");
        EDGES.isT("copy v0 \"a\"", "set v1 v0");
        EDGES.isT("copy v0 \"\"", "set v1 v0");
        EDGES.becomes("b", "set v0 \"b\"", "part v1 \"ab\" 1 2");
        EDGES.becomes("", "part v1 \"ab\" 1 1");
        EDGES.says("null: v is MISSING.");
        EDGES.due("null", EDGES.fine("set v0 \"a\"", "null v0").length(0), -1);
        EDGES.due("null of one that is MISSING", EDGES.fine("null v0", "null v0").length(0), -1);
        EDGES.says("copy: a new object with T's units, also without any.");
        EDGES.becomes("ab", "set v0 \"ab\"", "copy v1 v0");
        isNewWithoutUnits("set v0 \"\"", "copy v1 v0");
        EDGES.due("two copies without units", EDGES.fine("copy v0 \"\"", "copy v1 v0").same(0, 1), 0);
        EDGES.says("intern: v is the one of the POOL that is EQUAL to T");
        EDGES.isT("set v0 \"ab\"", "copy v2 v0", "intern v1 v2");
        EDGES.isT("set v0 \"\"", "copy v2 v0", "intern v1 v2");
        EDGES.isT("set v0 \"ab\"", "intern v1 v0");
        EDGES.due("it adds none", EDGES.fine("copy v2 \"ab\"", "intern v1 v2").pool(), 2);
        EDGES.says("if there is none T comes to the POOL, and v is T");
        EDGES.isT("repeat v0 \"a\" 2", "intern v1 v0");
        EDGES.due("it is in the POOL", EDGES.fine("repeat v0 \"a\" 2", "intern v1 v0").pooled(0), 1);
        EDGES.due("it adds one", EDGES.fine("repeat v0 \"a\" 2", "intern v1 v0").pool(), 3);
        EDGES.due("but once", EDGES.fine("repeat v0 \"a\" 2", "intern v1 v0", "intern v1 v0", "copy v2 v0", "intern v2 v2").pool(), 3);
        EDGES.isT("repeat v0 \"a\" 2", "intern v1 v0", "copy v2 v0", "intern v1 v2");
    }

    private static void joins() {
        EDGES.says("join: the units of all X, one behind the other, in a new object, also without any");
        EDGES.becomes("a", "copy v0 \"a\"", "join v1 v0");
        EDGES.becomes("abcdefgh", "set v0 \"a\"", "join v1 v0 \"b\" \"c\" \"d\" \"e\" \"f\" \"g\" \"h\"");
        isNewWithoutUnits("set v0 \"\"", "join v1 v0");
        isNewWithoutUnits("set v0 \"\"", "join v1 \"\" v0 \"\"");
        isNewWithoutUnits("fresh b0 1", "join v1 b0");
        EDGES.says("if no X is a v, w, or b, nor @ or ? with a w (all are LITERALS, NUMBERS): v is then as by intern of it");
        EDGES.isT("set v0 \"ab\"", "join v1 \"a\" \"b\"");
        EDGES.isT("set v0 \"a1\"", "join v1 \"a\" 1");
        EDGES.isT("set v0 \"A\"", "join v1 @65");
        EDGES.isT("set v0 \"true\"", "join v1 ?7");
        EDGES.isT("set v0 \"\"", "join v1 \"\"");
        EDGES.isT("join v0 \"a\" \"b\"", "join v1 \"a\" @98");
        EDGES.due("it comes to the POOL", EDGES.fine("join v1 \"a\" \"b\"").pooled(1), 1);
        EDGES.due("and adds one", EDGES.fine("join v1 \"a\" \"b\"").pool(), 4);
        EDGES.becomes("a", "set v0 \"a\"", "join v1 v0");
        EDGES.becomes("1", "set v0 \"1\"", "plus w0 1 0", "join v1 w0");
        EDGES.becomes("a", "set v0 \"a\"", "open b0 \"a\"", "join v1 b0");
        EDGES.becomes("A", "set v0 \"A\"", "plus w0 65 0", "join v1 @w0");
        EDGES.becomes("true", "set v0 \"true\"", "plus w0 65 0", "join v1 ?w0");
        EDGES.becomes("a", "set v0 \"\"", "join v1 \"a\" v0");
        EDGES.becomes("a", "set v0 \"\"", "join v1 v0 \"a\"");
    }

    private static void joinsOfXs() {
        EDGES.says("of W as number does it in base 10");
        EDGES.becomes("0", "plus w0 0 0", "join v1 w0");
        EDGES.becomes("-9223372036854775808", "plus w0 -9223372036854775808 0", "join v1 w0");
        EDGES.becomes("9223372036854775807", "plus w0 9223372036854775807 0", "join v1 w0");
        EDGES.isT("set v0 \"0-7\"", "join v1 -0 -007");
        EDGES.says("of @W the POINT W's (3: it is none)");
        EDGES.isT("set v0 \"\\u0000\\uffff\"", "join v1 @0 @65535");
        EDGES.isT("set v0 \"\\ud800\\udc00\\udbff\\udfff\"", "join v1 @65536 @1114111");
        EDGES.refused(3, "join v0 @1114112");
        EDGES.refused(3, "join v0 @-1");
        EDGES.refused(3, "join v0 @4294967361");
        EDGES.refused(3, "join v0 1 2 3 4 5 6 7 @-1");
        EDGES.says("of ?W true, or false if it is 0");
        EDGES.isT("set v0 \"truetruefalse\"", "join v1 ?1 ?-1 ?0");
        EDGES.isT("set v0 \"truefalse\"", "join v1 ?4294967296 ?-0");
        EDGES.says("of b its units");
        EDGES.becomes("x", "fresh b0 9", "join v1 \"x\" b0");
        EDGES.becomes("abab", "open b0 \"ab\"", "join v1 b0 b0");
    }

    private static void compares() {
        EDGES.says("same: 1 if both are one object, or both MISSING, else 0");
        EDGES.gives(1, "same w0 \"a\" \"a\"");
        EDGES.gives(1, "null v0", "same w0 v0 v0");
        EDGES.gives(0, "copy v0 \"a\"", "same w0 v0 \"a\"");
        EDGES.gives(0, "copy v0 \"\"", "same w0 v0 \"\"");
        EDGES.says("Two are EQUAL if their units are.");
        EDGES.gives(1, "copy v0 \"a\"", "equal w0 v0 \"a\"");
        EDGES.gives(1, "copy v0 \"\"", "equal w0 v0 \"\"");
        EDGES.gives(0, "equal w0 \"a\" \"ab\"");
        EDGES.gives(0, "equal w0 \"ab\" \"a\"");
        EDGES.gives(0, "equal w0 \"\" \"a\"");
        EDGES.gives(0, "equal w0 \"ab\" \"aB\"");
        EDGES.gives(1, X400, "copy v1 v0", "equal w0 v0 v1");
        EDGES.gives(0, X400, "part v1 v0 1 400", "join v1 v1 \"y\"", "equal w0 v0 v1");
        EDGES.says("order, hash, length.");
        EDGES.gives(0, "length w0 \"\"");
        EDGES.gives(400, X400, "length w0 v0");
        EDGES.gives(2, "length w0 \"\\ud83d\\ude00\"");
        EDGES.says("truth: 1 if T is ALIKE to true, else 0");
        EDGES.gives(1, "truth w0 \"true\"");
        EDGES.gives(1, "truth w0 \"TRUE\"");
        EDGES.gives(1, "truth w0 \"tRuE\"");
        for (String other : new String[] {"", "tru", "truee", " true", "true ", "1", "xrue", "txue", "trxe", "trux", "false"}) {
            EDGES.gives(0, "truth w0 \"" + other + "\"");
        }
    }

    private static void places() {
        EDGES.says("unit: at place W (1: not 0 .. length - 1)");
        EDGES.gives(97, SIX, "unit w0 v0 0");
        EDGES.gives(55357, SIX, "unit w0 v0 5");
        EDGES.gives(56832, SIX, "unit w0 v0 2");
        EDGES.says("point: the POINT that begins there (1 likewise; a LOW one that ends a PAIR is itself)");
        EDGES.gives(97, SIX, "point w0 v0 0");
        EDGES.gives(128512, SIX, "point w0 v0 1");
        EDGES.gives(56832, SIX, "point w0 v0 2");
        EDGES.gives(56832, SIX, "point w0 v0 3");
        EDGES.gives(55357, SIX, "point w0 v0 5");
        for (String name : new String[] {"unit", "point"}) {
            for (String place : new String[] {"-1", "6", "7", "4294967296", "-9223372036854775808", "9223372036854775807"}) {
                EDGES.refused(1, SIX, name + " w0 v0 " + place);
            }
            EDGES.refused(1, name + " w0 \"\" 0");
            EDGES.refused(1, X400, name + " w0 v0 400");
        }
        EDGES.says("before: that which ends just before place W (1: not 1 .. length; a HIGH one is itself)");
        EDGES.gives(97, SIX, "before w0 v0 1");
        EDGES.gives(55357, SIX, "before w0 v0 2");
        EDGES.gives(128512, SIX, "before w0 v0 3");
        EDGES.gives(56832, SIX, "before w0 v0 4");
        EDGES.gives(55357, SIX, "before w0 v0 6");
        EDGES.gives(56832, "before w0 \"\\ude00\" 1");
        EDGES.gives(128512, "before w0 \"\\ud83d\\ude00\" 2");
        for (String place : new String[] {"0", "-1", "7", "4294967297", "-9223372036854775808", "9223372036854775807"}) {
            EDGES.refused(1, SIX, "before w0 v0 " + place);
        }
        EDGES.refused(1, "before w0 \"\" 0");
        EDGES.refused(1, "before w0 \"\" 1");
        // Units of a text that was made just before or behind are none of this one's.
        EDGES.gives(56832, "set v0 \"\\ud83d\"", "set v1 \"\\ude00\"", "before w0 v1 1");
        EDGES.gives(55357, "set v0 \"\\ud83d\"", "set v1 \"\\ude00\"", "point w0 v0 0");
    }

    private static void points() {
        EDGES.says("(1: not 0 <= first <= second <= length; of PAIRS only whole ones are one)");
        EDGES.gives(5, SIX, "points w0 v0 0 6");
        EDGES.gives(1, SIX, "points w0 v0 1 3");
        EDGES.gives(1, SIX, "points w0 v0 1 2");
        EDGES.gives(1, SIX, "points w0 v0 2 3");
        EDGES.gives(2, SIX, "points w0 v0 0 2");
        EDGES.gives(2, SIX, "points w0 v0 2 4");
        EDGES.gives(0, SIX, "points w0 v0 0 0");
        EDGES.gives(0, SIX, "points w0 v0 2 2");
        EDGES.gives(0, SIX, "points w0 v0 6 6");
        EDGES.gives(0, "points w0 \"\" 0 0");
        EDGES.gives(1, "set v0 \"\\ud83d\"", "set v1 \"\\ude00\"", "points w0 v0 0 1");
        for (String wrong : new String[] {"-1 0", "-1 -1", "1 0", "6 5", "0 7", "7 7", "0 -1", "0 4294967296", "4294967296 4294967297",
            "-9223372036854775808 0", "0 9223372036854775807", "9223372036854775807 9223372036854775807"}) {
            EDGES.refused(1, SIX, "points w0 v0 " + wrong);
            EDGES.refused(1, SIX, "part v1 v0 " + wrong);
        }
        EDGES.refused(1, "points w0 \"\" 0 1");
        EDGES.refused(1, "part v0 \"\" 0 1");
    }

    private static void offsets() {
        EDGES.says("offset: the place so many POINTS (the second W) behind place (the first), or before it, if that is below 0");
        EDGES.gives(0, SIX, "offset w0 v0 0 0");
        EDGES.gives(2, SIX, "offset w0 v0 2 0");
        EDGES.gives(6, SIX, "offset w0 v0 6 0");
        EDGES.gives(1, SIX, "offset w0 v0 0 1");
        EDGES.gives(3, SIX, "offset w0 v0 1 1");
        EDGES.gives(3, SIX, "offset w0 v0 2 1");
        EDGES.gives(6, SIX, "offset w0 v0 0 5");
        EDGES.gives(6, SIX, "offset w0 v0 5 1");
        EDGES.gives(5, SIX, "offset w0 v0 6 -1");
        EDGES.gives(1, SIX, "offset w0 v0 3 -1");
        EDGES.gives(1, SIX, "offset w0 v0 2 -1");
        EDGES.gives(3, SIX, "offset w0 v0 4 -1");
        EDGES.gives(0, SIX, "offset w0 v0 1 -1");
        EDGES.gives(0, SIX, "offset w0 v0 6 -5");
        EDGES.gives(0, "offset w0 \"\\ud83d\\ude00\" 2 -1");
        EDGES.gives(2, "offset w0 \"\\ud83d\\ude00\" 0 1");
        EDGES.gives(0, "offset w0 \"\" 0 0");
        EDGES.gives(400, X400, "offset w0 v0 0 400");
        EDGES.gives(0, X400, "offset w0 v0 400 -400");
        EDGES.gives(0, "set v0 \"\\ud83d\"", "set v1 \"\\ude00\"", "offset w0 v1 1 -1");
        EDGES.gives(1, "set v0 \"\\ud83d\"", "set v1 \"\\ude00\"", "offset w0 v0 0 1");
        EDGES.says("(1: the first is not 0 .. length, or there are not so many)");
        for (String wrong : new String[] {"-1 0", "-1 1", "7 0", "7 -1", "4294967296 0", "-9223372036854775808 0", "0 6", "1 5",
            "2 5", "6 1", "6 -6", "0 -1", "1 -2", "3 -3", "0 4294967296", "0 9223372036854775807", "6 -9223372036854775808",
            "6 -4294967296"}) {
            EDGES.refused(1, SIX, "offset w0 v0 " + wrong);
        }
        EDGES.refused(1, "offset w0 \"\" 0 1");
        EDGES.refused(1, "offset w0 \"\" 0 -1");
        EDGES.refused(1, "offset w0 \"\" 1 0");
        EDGES.refused(1, X400, "offset w0 v0 0 401");
    }

    private static void parts() {
        EDGES.says("part: the units from the first W up to the second (1 as of points): is T, if these are all, else becomes them.");
        EDGES.isT("copy v0 \"abc\"", "part v1 v0 0 3");
        EDGES.isT("copy v0 \"\"", "part v1 v0 0 0");
        EDGES.becomes("ab", "set v0 \"abc\"", "part v1 v0 0 2");
        EDGES.becomes("bc", "set v0 \"abc\"", "part v1 v0 1 3");
        EDGES.becomes("c", "set v0 \"abc\"", "part v1 v0 2 3");
        EDGES.becomes("", "set v0 \"abc\"", "part v1 v0 0 0");
        EDGES.becomes("", "set v0 \"abc\"", "part v1 v0 3 3");
    }

    private static void trims() {
        EDGES.says("trim: without units up to 32 at both ends");
        EDGES.becomes("a", "trim v1 \"\\u0000 a\\u001f \"");
        EDGES.becomes("a b", "trim v1 \" a b\"");
        EDGES.becomes("a b", "trim v1 \"a b \"");
        EDGES.becomes("!", "trim v1 \" ! \"");
        EDGES.isT("set v0 \"!a!\"", "trim v1 v0");
        EDGES.isT("set v0 \"\\u00a0a\\u2003\\u3000\"", "trim v1 v0");
        EDGES.says("strip: without BLANKS: each is T, if none goes, else becomes the rest.");
        for (String name : new String[] {"trim", "strip"}) {
            EDGES.isT("set v0 \"a b\"", name + " v1 v0");
            EDGES.isT("copy v0 \"\"", name + " v1 v0");
            EDGES.becomes("", name + " v1 \" \"");
            EDGES.becomes("", name + " v1 \" \\t\\n \"");
            EDGES.becomes("", "repeat v0 \" \" 400", name + " v1 v0");
        }
        EDGES.becomes("\u00a0a", "strip v1 \"\\u2003\\u00a0a\\u3000\"");
    }

    private static void repeats() {
        EDGES.says("repeat: W times (3: below 0): is T, if W is 1; else becomes that.");
        EDGES.isT("copy v0 \"ab\"", "repeat v1 v0 1");
        EDGES.isT("copy v0 \"\"", "repeat v1 v0 1");
        EDGES.isT("repeat v0 \"x\" 400", "repeat v1 v0 1");
        EDGES.becomes("", "set v0 \"ab\"", "repeat v1 v0 0");
        EDGES.becomes("abab", "set v0 \"ab\"", "repeat v1 v0 2");
        EDGES.becomes("", "copy v0 \"\"", "repeat v1 v0 0");
        EDGES.becomes("", "copy v0 \"\"", "repeat v1 v0 2");
        EDGES.becomes("", "copy v0 \"\"", "repeat v1 v0 401");
        EDGES.becomes("", "copy v0 \"\"", "repeat v1 v0 9223372036854775807");
        EDGES.becomes("ab".repeat(200), "repeat v1 \"ab\" 200");
        EDGES.refused(5, "repeat v1 \"ab\" 201");
        EDGES.refused(5, "repeat v1 \"x\" 4294967297");
        EDGES.refused(5, "repeat v1 \"x\" 9223372036854775807");
        EDGES.refused(3, "repeat v1 \"x\" -1");
        EDGES.refused(3, "repeat v1 \"\" -1");
        EDGES.refused(3, "repeat v1 \"x\" -9223372036854775808");
    }

    private static void changes() {
        EDGES.says("change: each unit that is the first W becomes the second (3: one of them is not 0 .. 65535)");
        EDGES.becomes("bonono", "set v0 \"banana\"", "change v1 v0 97 111");
        EDGES.becomes("\uffff", "change v1 \"\\u0000\" 0 65535");
        EDGES.becomes("\0", "change v1 \"\\uffff\" 65535 0");
        for (String wrong : new String[] {"-1 0", "0 -1", "65536 0", "0 65536", "4294967393 0", "97 4294967296"}) {
            EDGES.refused(3, "change v1 \"a\" " + wrong);
            EDGES.refused(3, "change v1 \"\" " + wrong);
        }
        EDGES.says("is T, if nothing changes, else becomes that. replace");
        EDGES.isT("copy v0 \"banana\"", "change v1 v0 120 111");
        EDGES.isT("copy v0 \"banana\"", "change v1 v0 97 97");
        EDGES.isT("copy v0 \"\"", "change v1 v0 97 98");
        EDGES.becomes("ba", "set v0 \"bb\"", "change v1 \"bc\" 99 97");
    }

    private static void replaces() {
        EDGES.says("replace: each place of the second T, from the left, none within another, becomes the third");
        EDGES.becomes("xa", "replace v1 \"aaa\" \"aa\" \"x\"");
        EDGES.becomes("xx", "replace v1 \"aaaa\" \"aa\" \"x\"");
        EDGES.becomes("b<>na", "replace v1 \"banana\" \"ana\" \"<>\"");
        EDGES.becomes("aaaa", "replace v1 \"aa\" \"a\" \"aa\"");
        EDGES.becomes("xbc", "replace v1 \"abc\" \"a\" \"x\"");
        EDGES.becomes("abx", "replace v1 \"abc\" \"c\" \"x\"");
        EDGES.becomes("x", "set v0 \"abc\"", "replace v1 v0 v0 \"x\"");
        EDGES.becomes("", "set v0 \"abc\"", "replace v1 v0 v0 \"\"");
        EDGES.becomes("b", "replace v1 \"aba\" \"a\" \"\"");
        EDGES.says("without units it stands before each unit and at the end");
        EDGES.becomes("-a-b-", "replace v1 \"ab\" \"\" \"-\"");
        EDGES.becomes("-", "replace v1 \"\" \"\" \"-\"");
        EDGES.becomes("-\ud83d-\ude00-", "replace v1 \"\\ud83d\\ude00\" \"\" \"-\"");
        EDGES.becomes("ab", "set v0 \"ab\"", "replace v1 v0 \"\" \"\"");
        EDGES.becomes("", "copy v0 \"\"", "replace v1 v0 \"\" \"\"");
        EDGES.due("199 units to 399", EDGES.fine("repeat v0 \"x\" 199", "replace v1 v0 \"\" \"-\"").length(1), 399);
        EDGES.refused(5, "repeat v0 \"x\" 200", "replace v1 v0 \"\" \"-\"");
        EDGES.says("Is T, if it stands nowhere, else becomes that.");
        EDGES.isT("copy v0 \"ab\"", "replace v1 v0 \"x\" \"y\"");
        EDGES.isT("copy v0 \"ab\"", "replace v1 v0 \"abc\" \"y\"");
        EDGES.isT("copy v0 \"\"", "replace v1 v0 \"x\" \"y\"");
        EDGES.isT("repeat v0 \"x\" 400", "replace v1 v0 \"y\" v0");
        EDGES.becomes("ab", "set v0 \"ab\"", "replace v1 v0 \"a\" \"a\"");
    }

    private static void cases() {
        EDGES.says("upper, lower: unit by unit: is T, if all stay, else becomes that.");
        EDGES.isT("copy v0 \"AB1\"", "upper v1 v0");
        EDGES.isT("copy v0 \"ab1\"", "lower v1 v0");
        EDGES.isT("copy v0 \"\"", "upper v1 v0");
        EDGES.isT("copy v0 \"\"", "lower v1 v0");
        EDGES.becomes("ABC", "upper v1 \"ABc\"");
        EDGES.becomes("ABC", "upper v1 \"aBC\"");
        EDGES.becomes("abc", "lower v1 \"abC\"");
        EDGES.becomes("abc", "lower v1 \"Abc\"");
        EDGES.isT("copy v0 \"\\ud801\\udc28\"", "upper v1 v0");
        EDGES.isT("copy v0 \"\\u03a3\"", "lower v1 v0");
    }

    private static void finds() {
        EDGES.says("find: the least place, W at least, at which the second T's units stand in the first");
        EDGES.gives(0, "find w0 \"abab\" \"ab\" 0");
        EDGES.gives(2, "find w0 \"abab\" \"ab\" 1");
        EDGES.gives(2, "find w0 \"abab\" \"ab\" 2");
        EDGES.gives(0, "find w0 \"abab\" \"ab\" -1");
        EDGES.gives(0, "find w0 \"abab\" \"ab\" -9223372036854775808");
        EDGES.gives(0, "find w0 \"ab\" \"ab\" 0");
        EDGES.gives(399, "repeat v0 \"x\" 399", "join v0 v0 \"y\"", "find w0 v0 \"y\" 0");
        EDGES.says("last: the greatest, W at most; -1: none");
        EDGES.gives(2, "last w0 \"abab\" \"ab\" 4");
        EDGES.gives(2, "last w0 \"abab\" \"ab\" 2");
        EDGES.gives(0, "last w0 \"abab\" \"ab\" 1");
        EDGES.gives(0, "last w0 \"abab\" \"ab\" 0");
        EDGES.gives(2, "last w0 \"abab\" \"ab\" 9223372036854775807");
        EDGES.gives(2, "last w0 \"abab\" \"ab\" 4294967296");
        EDGES.gives(-1, "last w0 \"abab\" \"ab\" -1");
        EDGES.gives(-1, "last w0 \"abab\" \"ab\" -9223372036854775808");
        EDGES.gives(-1, "last w0 \"abab\" \"x\" 9");
        EDGES.gives(-1, "last w0 \"ab\" \"abc\" 9");
        EDGES.gives(-1, "last w0 \"\" \"a\" 0");
        EDGES.gives(-1, "find w0 \"abab\" \"ab\" 3");
        EDGES.gives(-1, "find w0 \"abab\" \"ab\" 4");
        EDGES.gives(-1, "find w0 \"abab\" \"ab\" 5");
        EDGES.gives(-1, "find w0 \"abab\" \"ab\" 4294967296");
        EDGES.gives(-1, "find w0 \"abab\" \"ab\" 9223372036854775807");
        EDGES.gives(-1, "find w0 \"ab\" \"abc\" 0");
        EDGES.gives(-1, "find w0 \"abab\" \"x\" 0");
        EDGES.gives(-1, "find w0 \"\" \"a\" 0");
        // Units of a text that was made just behind are none of this one's.
        EDGES.gives(-1, "set v0 \"xa\"", "set v1 \"b\"", "find w0 v0 \"ab\" 0");
        EDGES.says("(one without units stands at 0 .. length; find with W above the length: the length)");
        EDGES.gives(0, "find w0 \"ab\" \"\" -1");
        EDGES.gives(0, "find w0 \"ab\" \"\" 0");
        EDGES.gives(1, "find w0 \"ab\" \"\" 1");
        EDGES.gives(2, "find w0 \"ab\" \"\" 2");
        EDGES.gives(2, "find w0 \"ab\" \"\" 3");
        EDGES.gives(2, "find w0 \"ab\" \"\" 4294967296");
        EDGES.gives(2, "find w0 \"ab\" \"\" 9223372036854775807");
        EDGES.gives(0, "find w0 \"\" \"\" 9");
        EDGES.gives(2, "last w0 \"ab\" \"\" 3");
        EDGES.gives(2, "last w0 \"ab\" \"\" 2");
        EDGES.gives(0, "last w0 \"ab\" \"\" 0");
        EDGES.gives(-1, "last w0 \"ab\" \"\" -1");
        EDGES.gives(0, "last w0 \"\" \"\" 0");
    }

    private static void seeks() {
        EDGES.says("seek: the least place, the second W at least, at which the POINT (the first W) stands, -1: none");
        EDGES.gives(0, "seek w0 \"aba\" 97 0");
        EDGES.gives(2, "seek w0 \"aba\" 97 1");
        EDGES.gives(2, "seek w0 \"aba\" 97 2");
        EDGES.gives(-1, "seek w0 \"aba\" 97 3");
        EDGES.gives(-1, "seek w0 \"aba\" 97 9223372036854775807");
        EDGES.gives(-1, "seek w0 \"aba\" 97 4294967296");
        EDGES.gives(0, "seek w0 \"aba\" 97 -1");
        EDGES.gives(0, "seek w0 \"aba\" 97 -9223372036854775808");
        EDGES.gives(-1, "seek w0 \"aba\" 120 0");
        EDGES.gives(-1, "seek w0 \"\" 0 0");
        EDGES.gives(1, SIX, "seek w0 v0 128512 0");
        EDGES.gives(1, SIX, "seek w0 v0 128512 1");
        EDGES.gives(-1, SIX, "seek w0 v0 128512 2");
        EDGES.gives(0, "seek w0 \"\\u0000\\uffff\" 0 0");
        EDGES.gives(1, "seek w0 \"\\u0000\\uffff\" 65535 0");
        EDGES.gives(0, "seek w0 \"\\ud800\\udc00\" 65536 0");
        EDGES.gives(0, "seek w0 \"\\udbff\\udfff\" 1114111 0");
        EDGES.gives(-1, "set v0 \"\\ud83d\"", "set v1 \"\\ude00\"", "seek w0 v0 128512 0");
        EDGES.says("or it is no POINT (one below 65536 as a unit, whatever stands beside)");
        EDGES.gives(-1, "seek w0 \"aba\" -1 0");
        EDGES.gives(-1, "seek w0 \"aba\" 1114112 0");
        EDGES.gives(-1, "seek w0 \"aba\" 4294967393 0");
        EDGES.gives(-1, "seek w0 \"aba\" -9223372036854775808 0");
        EDGES.gives(1, SIX, "seek w0 v0 55357 0");
        EDGES.gives(5, SIX, "seek w0 v0 55357 2");
        EDGES.gives(2, SIX, "seek w0 v0 56832 0");
        EDGES.gives(3, SIX, "seek w0 v0 56832 3");
    }

    private static void standsAt() {
        EDGES.says("begins: 1 if the second T stands at place W in the first, else 0.");
        EDGES.gives(1, "begins w0 \"abab\" \"ab\" 0");
        EDGES.gives(0, "begins w0 \"abab\" \"ab\" 1");
        EDGES.gives(1, "begins w0 \"abab\" \"ab\" 2");
        EDGES.gives(0, "begins w0 \"abab\" \"ab\" 3");
        EDGES.gives(0, "begins w0 \"abab\" \"ab\" -1");
        EDGES.gives(0, "begins w0 \"abab\" \"ab\" 4294967296");
        EDGES.gives(0, "begins w0 \"abab\" \"ab\" -9223372036854775808");
        EDGES.gives(0, "begins w0 \"ab\" \"abc\" 0");
        EDGES.gives(1, "begins w0 \"ab\" \"\" 0");
        EDGES.gives(1, "begins w0 \"ab\" \"\" 2");
        EDGES.gives(0, "begins w0 \"ab\" \"\" 3");
        EDGES.gives(0, "begins w0 \"ab\" \"\" -1");
        EDGES.gives(0, "begins w0 \"ab\" \"\" 9223372036854775807");
        EDGES.gives(1, "begins w0 \"\" \"\" 0");
        EDGES.gives(0, "set v0 \"xa\"", "set v1 \"b\"", "begins w0 v0 \"ab\" 1");
        EDGES.says("ends: whether it stands at its end.");
        EDGES.gives(1, "ends w0 \"abab\" \"bab\"");
        EDGES.gives(1, "ends w0 \"abab\" \"abab\"");
        EDGES.gives(1, "ends w0 \"abab\" \"\"");
        EDGES.gives(1, "ends w0 \"\" \"\"");
        EDGES.gives(0, "ends w0 \"abab\" \"aba\"");
        EDGES.gives(0, "ends w0 \"ab\" \"aab\"");
        EDGES.gives(0, "ends w0 \"\" \"a\"");
    }

    private static void splits() {
        EDGES.says("split: PARTS are T cut at each unit W (3: not 0 .. 65535)");
        EDGES.partsAre(2, "a|b", "split \"a,b\" 44 -1");
        EDGES.partsAre(2, "|", "split \",\" 44 -1");
        EDGES.partsAre(3, "|a|", "split \",a,\" 44 -1");
        EDGES.partsAre(2, "a|b", "split \"a\\u0000b\" 0 -1");
        EDGES.partsAre(2, "a|b", "split \"a\\uffffb\" 65535 -1");
        EDGES.partsAre(2, "a|\ude00", "split \"a\\ud83d\\ude00\" 55357 -1");
        for (String wrong : new String[] {"-1", "65536", "4294967340", "-9223372036854775808", "9223372036854775807"}) {
            EDGES.refused(3, "split \"a\" " + wrong + " 0");
            EDGES.refused(3, "split \"a\" 97 -1", "split \"\" " + wrong + " 1");
        }
        EDGES.says("with the second W, n, above 0 there are n at most (the last one has the rest)");
        EDGES.partsAre(1, "a,b,,", "split \"a,b,,\" 44 1");
        EDGES.partsAre(2, "a|b,,", "split \"a,b,,\" 44 2");
        EDGES.partsAre(3, "a|b|,", "split \"a,b,,\" 44 3");
        EDGES.partsAre(4, "a|b||", "split \"a,b,,\" 44 4");
        EDGES.partsAre(4, "a|b||", "split \"a,b,,\" 44 5");
        EDGES.partsAre(4, "a|b||", "split \"a,b,,\" 44 4294967296");
        EDGES.partsAre(4, "a|b||", "split \"a,b,,\" 44 9223372036854775807");
        EDGES.partsAre(2, "dd|e", "split \"a,,b,c\" 44 -1", "split \"dd,e\" 44 -1");
        EDGES.partsAre(2, "dd|e", "lines \"a\\n\\nb\\nc\"", "split \"dd,e\" 44 2");
        EDGES.says("with 0 those without units at the end go");
        EDGES.partsAre(2, "a|b", "split \"a,b,,\" 44 0");
        EDGES.partsAre(3, "|a|", "split \",a,\" 44 -1");
        EDGES.partsAre(2, "|a", "split \",a,\" 44 0");
        EDGES.partsAre(3, "a||b", "split \"a,,b\" 44 0");
        EDGES.partsAre(0, "", "split \",\" 44 0");
        EDGES.partsAre(0, "", "split \",,,\" 44 0");
        EDGES.partsAre(2, "dd|e", "split \"a,b,,,,\" 44 0", "split \"dd,e,,\" 44 0");
        EDGES.partsAre(4, "a|b||", "split \"a,b,,\" 44 -1");
        EDGES.partsAre(4, "a|b||", "split \"a,b,,\" 44 -9223372036854775808");
        EDGES.says("A PART that is all of T is T, else it becomes that");
        EDGES.isT("copy v0 \"a,b\"", "split v0 44 1", "piece v1 0");
        EDGES.isT("copy v0 \"ab\"", "lines v0", "piece v1 0");
        EDGES.becomes("ab", "set v0 \"ab\"", "split \"ab,\" 44 0", "piece v1 0");
        EDGES.becomes("ab", "set v0 \"ab\"", "lines \"ab\\n\"", "piece v1 0");
        EDGES.becomes("", "split \"a,\" 44 -1", "piece v1 1");
        EDGES.becomes("", "lines \"\\n\"", "piece v1 0");
        EDGES.says("if the unit does not stand in T, PARTS are just T (also without units)");
        for (String n : new String[] {"0", "-1", "1", "2"}) {
            EDGES.partsAre(1, "ab", "split \"ab\" 44 " + n);
            EDGES.partsAre(1, "", "split \"\" 44 " + n);
            EDGES.isT("copy v0 \"ab\"", "split v0 44 " + n, "piece v1 0");
            EDGES.isT("copy v0 \"\"", "split v0 44 " + n, "piece v1 0");
        }
    }

    private static void lines() {
        EDGES.says("lines: cut behind units 10, 13, or 13 10, which go");
        EDGES.partsAre(2, "x|y", "lines \"x\\ny\"");
        EDGES.partsAre(2, "x|y", "lines \"x\\u000dy\"");
        EDGES.partsAre(2, "x|y", "lines \"x\\u000d\\ny\"");
        EDGES.partsAre(3, "x||y", "lines \"x\\n\\u000dy\"");
        EDGES.partsAre(3, "x||y", "lines \"x\\u000d\\u000d\\ny\"");
        EDGES.partsAre(3, "x||y", "lines \"x\\u000d\\n\\ny\"");
        EDGES.partsAre(2, "|x", "lines \"\\nx\"");
        EDGES.partsAre(2, "dd|e", "lines \"a\\n\\nb\\nc\"", "lines \"dd\\ne\"");
        EDGES.partsAre(2, "dd|e", "split \"a,,b,c\" 44 -1", "lines \"dd\\ne\"");
        EDGES.partsAre(1, "\u000b\u000c\u0085\u2028\u2029", "lines \"\\u000b\\u000c\\u0085\\u2028\\u2029\"");
        EDGES.says("what is behind the last of them is one only if it has units");
        EDGES.partsAre(1, "x", "lines \"x\\n\"");
        EDGES.partsAre(1, "x", "lines \"x\\u000d\"");
        EDGES.partsAre(1, "x", "lines \"x\\u000d\\n\"");
        EDGES.partsAre(2, "x|", "lines \"x\\n\\n\"");
        EDGES.partsAre(1, "", "lines \"\\n\"");
        EDGES.partsAre(2, "x| ", "lines \"x\\n \"");
        EDGES.partsAre(0, "", "lines \"\"");
        // The text that was made just behind begins with a unit 10, which is none of this one's.
        EDGES.partsAre(1, "x", "set v0 \"x\\u000d\"", "set v1 \"\\ny\"", "lines v0");
    }

    private static void pieces() {
        EDGES.says("piece: v is PART W (1: none such).");
        EDGES.becomes("a", "split \"a,b\" 44 0", "piece v1 0");
        EDGES.becomes("b", "split \"a,b\" 44 0", "piece v1 1");
        EDGES.isT("split \"a,b\" 44 0", "piece v0 1", "piece v1 1");
        for (String wrong : new String[] {"-1", "2", "4294967296", "-9223372036854775808", "9223372036854775807"}) {
            EDGES.refused(1, "split \"a,b\" 44 0", "piece v1 " + wrong);
        }
        EDGES.refused(1, "piece v1 0");
        EDGES.refused(1, "split \",\" 44 0", "piece v1 0");
        EDGES.says("pieces: how many.");
        EDGES.gives(0, "pieces w0");
        EDGES.gives(24, "repeat v0 \",\" 23", "split v0 44 -1", "pieces w0");
        EDGES.gives(1, "split \"a,b\" 44 0", "split \"\" 44 0", "pieces w0");
        EDGES.gives(0, "split \"a,b\" 44 0", "lines \"\"", "pieces w0");
        EDGES.says("weave: becomes all PARTS with T between.");
        EDGES.becomes("a-b-c", "split \"a,b,c\" 44 0", "weave v1 \"-\"");
        EDGES.becomes("abc", "split \"a,b,c\" 44 0", "weave v1 \"\"");
        EDGES.becomes("ab", "set v0 \"ab\"", "split v0 44 0", "weave v1 \"-\"");
        EDGES.becomes("", "weave v1 \"-\"");
        EDGES.becomes("", "split \"\" 44 0", "weave v1 \"-\"");
        EDGES.becomes("-", "split \",\" 44 -1", "weave v1 \"-\"");
        EDGES.due("T of 400 without PARTS", EDGES.fine(X400, "weave v1 v0").length(1), 0);
        EDGES.due("T of 400 with one PART", EDGES.fine(X400, "split \"a\" 44 0", "weave v1 v0").length(1), 1);
        EDGES.refused(5, X400, "split \"a,\" 44 -1", "weave v1 v0");
    }

    private static void makesBuilders() {
        EDGES.says("fresh: a new one without units, with ROOM W (3: not 0 .. 400).");
        EDGES.builds("", 0, "fresh b0 0");
        EDGES.builds("", 400, "fresh b0 400");
        EDGES.builds("", 3, "open b0 \"ab\"", "fresh b0 3");
        for (String wrong : new String[] {"-1", "401", "4294967296", "-9223372036854775808", "9223372036854775807"}) {
            EDGES.refused(3, "fresh b0 " + wrong);
            EDGES.refused(3, "open b0 \"ab\"", "fresh b0 " + wrong);
        }
        EDGES.says("open: with T's, ROOM 16 more than these.");
        EDGES.builds("", 16, "open b0 \"\"");
        EDGES.builds("ab", 18, "open b0 \"ab\"");
        EDGES.builds("ab", 18, "fresh b0 300", "add b0 \"xyz\"", "open b0 \"ab\"");
        EDGES.builds("x".repeat(400), 416, X400, "open b0 v0");
        EDGES.says("when it needs more than that, n, ROOM becomes the greater one of n and twice it and 2");
        EDGES.builds("", 0, "fresh b0 0", "add b0 \"\"");
        EDGES.builds("a", 2, "fresh b0 0", "add b0 \"a\"");
        EDGES.builds("ab", 2, "fresh b0 0", "add b0 \"ab\"");
        EDGES.builds("abc", 3, "fresh b0 0", "add b0 \"abc\"");
        EDGES.builds("ab", 2, "fresh b0 2", "add b0 \"ab\"");
        EDGES.builds("abc", 6, "fresh b0 2", "add b0 \"abc\"");
        EDGES.builds("abcdef", 6, "fresh b0 2", "add b0 \"abcdef\"");
        EDGES.builds("abcdefg", 7, "fresh b0 2", "add b0 \"abcdefg\"");
        EDGES.builds("xab", 6, "fresh b0 2", "add b0 \"ab\"", "insert b0 0 \"x\"");
        EDGES.builds("\0\0\0", 6, "fresh b0 2", "size b0 3");
        EDGES.builds("x".repeat(399) + "y", 416, "repeat v0 \"x\" 400", "open b0 v0", "put b0 399 121");
        EDGES.builds("x".repeat(400), 602, "fresh b0 300", X400, "add b0 v0");
    }

    private static void changesBuilders() {
        EDGES.says("insert: X at place W (1: not 0 .. length; then X's)");
        EDGES.builds("xab", 18, "open b0 \"ab\"", "insert b0 0 \"x\"");
        EDGES.builds("axb", 18, "open b0 \"ab\"", "insert b0 1 \"x\"");
        EDGES.builds("abx", 18, "open b0 \"ab\"", "insert b0 2 \"x\"");
        EDGES.builds("aabb", 18, "open b0 \"ab\"", "insert b0 1 b0");
        EDGES.builds("x", 2, "fresh b0 0", "insert b0 0 \"x\"");
        for (String wrong : new String[] {"-1", "3", "4294967296", "-9223372036854775808", "9223372036854775807"}) {
            EDGES.refused(1, "open b0 \"ab\"", "insert b0 " + wrong + " \"x\"");
            EDGES.refused(1, "open b0 \"ab\"", "insert b0 " + wrong + " \"\"");
            EDGES.refused(1, "open b0 \"ab\"", "insert b0 " + wrong + " @-1");
        }
        EDGES.refused(3, "open b0 \"ab\"", "insert b0 2 @-1");
        EDGES.says("delete: units from the first W up to the second, which counts as the length if it is above that");
        EDGES.builds("ad", 20, "open b0 \"abcd\"", "delete b0 1 3");
        EDGES.builds("", 20, "open b0 \"abcd\"", "delete b0 0 4");
        EDGES.builds("abc", 20, "open b0 \"abcd\"", "delete b0 3 4");
        EDGES.builds("abc", 20, "open b0 \"abcd\"", "delete b0 3 5");
        EDGES.builds("abc", 20, "open b0 \"abcd\"", "delete b0 3 9223372036854775807");
        EDGES.builds("abc", 20, "open b0 \"abcd\"", "delete b0 3 4294967296");
        EDGES.builds("abcd", 20, "open b0 \"abcd\"", "delete b0 4 4");
        EDGES.builds("abcd", 20, "open b0 \"abcd\"", "delete b0 4 5");
        EDGES.builds("abcd", 20, "open b0 \"abcd\"", "delete b0 0 0");
        EDGES.builds("", 0, "fresh b0 0", "delete b0 0 9");
        EDGES.says("(1: not 0 <= first <= second)");
        for (String wrong : new String[] {"-1 0", "-1 -1", "2 1", "5 4", "5 5", "5 6", "0 -1", "4294967296 4294967297",
            "-9223372036854775808 0", "9223372036854775807 9223372036854775807"}) {
            EDGES.refused(1, "open b0 \"abcd\"", "delete b0 " + wrong);
        }
        EDGES.refused(1, "fresh b0 9", "delete b0 1 1");
        EDGES.says("put: the unit at the first W becomes the second (1: no such place; 3: not 0 .. 65535)");
        EDGES.builds("Xb", 18, "open b0 \"ab\"", "put b0 0 88");
        EDGES.builds("aX", 18, "open b0 \"ab\"", "put b0 1 88");
        EDGES.builds("\0\uffff", 18, "open b0 \"ab\"", "put b0 0 0", "put b0 1 65535");
        for (String wrong : new String[] {"-1 88", "2 88", "4294967296 88", "9223372036854775807 88", "2 -1", "-1 65536"}) {
            EDGES.refused(1, "open b0 \"ab\"", "put b0 " + wrong);
        }
        EDGES.refused(1, "fresh b0 9", "put b0 0 88");
        for (String wrong : new String[] {"0 -1", "1 65536", "0 4294967384", "0 -9223372036854775808"}) {
            EDGES.refused(3, "open b0 \"ab\"", "put b0 " + wrong);
        }
    }

    private static void turns() {
        EDGES.says("turn: its POINTS in the other order (PAIRS stay PAIRS; what becomes one by it stays as it is).");
        EDGES.builds("", 0, "fresh b0 0", "turn b0");
        EDGES.builds("a", 17, "open b0 \"a\"", "turn b0");
        EDGES.builds("ba", 18, "open b0 \"ab\"", "turn b0");
        EDGES.builds("cba", 19, "open b0 \"abc\"", "turn b0");
        EDGES.builds("\ud83d\ude00", 18, "open b0 \"\\ud83d\\ude00\"", "turn b0");
        EDGES.builds("b\ud83d\ude00a", 20, "open b0 \"a\\ud83d\\ude00b\"", "turn b0");
        EDGES.builds("\ud83d\ude01\ud83d\ude00", 20, "open b0 \"\\ud83d\\ude00\\ud83d\\ude01\"", "turn b0");
        EDGES.builds("\ud83d\ude00", 18, "open b0 \"\\ude00\\ud83d\"", "turn b0");
        EDGES.builds("\ud83d\ude00", 18, "open b0 \"\\ude00\\ud83d\"", "turn b0", "turn b0");
        EDGES.builds("\ud83d\ude00\ude00", 19, "open b0 \"\\ude00\\ud83d\\ude00\"", "turn b0");
        EDGES.builds("\ud83d\ude00\ud83d", 19, "open b0 \"\\ud83d\\ud83d\\ude00\"", "turn b0");
        EDGES.builds("x".repeat(399) + "y", 416, "repeat v0 \"x\" 399", "join v0 \"y\" v0", "open b0 v0", "turn b0");
    }

    private static void sizes() {
        EDGES.says("size: W units (1: below 0): the last ones go, or units 0 come.");
        EDGES.builds("ab", 18, "open b0 \"ab\"", "size b0 2");
        EDGES.builds("a", 18, "open b0 \"ab\"", "size b0 1");
        EDGES.builds("", 18, "open b0 \"ab\"", "size b0 0");
        EDGES.builds("ab\0", 18, "open b0 \"ab\"", "size b0 3");
        EDGES.builds("a\0", 18, "open b0 \"ab\"", "size b0 1", "size b0 2");
        EDGES.builds("\0".repeat(18), 18, "fresh b0 18", "size b0 18");
        EDGES.builds("\0".repeat(19), 38, "fresh b0 18", "size b0 19");
        EDGES.builds("\0".repeat(400), 400, "fresh b0 18", "size b0 400");
        EDGES.refused(1, "open b0 \"ab\"", "size b0 -1");
        EDGES.refused(1, "open b0 \"ab\"", "size b0 -9223372036854775808");
        EDGES.refused(1, "open b0 \"ab\"", "size b0 -4294967295");
        EDGES.refused(5, "open b0 \"ab\"", "size b0 401");
    }

    private static void readsBuilders() {
        EDGES.says("text: v becomes its units.");
        EDGES.becomes("ab", "set v0 \"ab\"", "open b0 v0", "text v1 b0");
        EDGES.becomes("", "fresh b0 9", "text v1 b0");
        EDGES.due("it never changes", Tapes.text(EDGES.fine("open b0 \"ab\"", "text v1 b0", "add b0 \"c\""), 1), "ab");
        EDGES.says("room: its ROOM.");
        EDGES.gives(0, "fresh b0 0", "room w0 b0");
        EDGES.gives(416, X400, "open b0 v0", "room w0 b0");
        EDGES.says("first: the ORDER of both.");
        EDGES.gives(0, "fresh b0 1", "fresh b1 2", "first w0 b0 b1");
        EDGES.gives(0, "open b0 \"ab\"", "first w0 b0 b0");
        EDGES.gives(2, "open b0 \"ab\"", "fresh b1 9", "first w0 b0 b1");
        EDGES.gives(-2, "open b0 \"ab\"", "fresh b1 9", "first w0 b1 b0");
        EDGES.gives(-65535, "open b0 \"\\u0000z\"", "open b1 \"\\uffff\"", "first w0 b0 b1");
    }

    private static void fromAndNumber() {
        EDGES.says("from: becomes the POINTS W (3: one is none).");
        EDGES.becomes("a", "set v0 \"a\"", "from v1 97");
        EDGES.becomes("abcdefgh", "from v1 97 98 99 100 101 102 103 104");
        EDGES.becomes("\udbff\udfff".repeat(8), "from v1" + " 1114111".repeat(8));
        EDGES.becomes("\ud83d\ude00", "from v1 55357 56832");
        for (String wrong : new String[] {"-1", "1114112", "4294967393", "97 -1", "1114112 97", "97 97 97 97 97 97 97 -1"}) {
            EDGES.refused(3, "from v0 " + wrong);
        }
        EDGES.says("number: becomes the first W in base (the second; 10 if that is not 2 .. 36)");
        EDGES.becomes("11", "set v0 \"11\"", "number v1 3 2");
        EDGES.becomes("z", "number v1 35 36");
        EDGES.becomes("10", "number v1 36 36");
        for (String base : new String[] {"10", "1", "0", "-1", "-10", "37", "4294967298", "-9223372036854775808"}) {
            EDGES.becomes("35", "number v1 35 " + base);
        }
        EDGES.says("digits 0 .. 9 a .. z, - ahead below 0.");
        EDGES.becomes("0", "number v1 0 2");
        EDGES.becomes("0", "number v1 -0 36");
        EDGES.becomes("9", "number v1 9 16");
        EDGES.becomes("a", "number v1 10 16");
        EDGES.becomes("-f", "number v1 -15 16");
        EDGES.becomes("-1" + "0".repeat(63), "number v1 -9223372036854775808 2");
        EDGES.becomes("1".repeat(63), "number v1 9223372036854775807 2");
        EDGES.becomes("-1y2p0ij32e8e8", "number v1 -9223372036854775808 36");
        EDGES.becomes("-9223372036854775808", "number v1 -9223372036854775808 10");
    }

    private static void parses() {
        EDGES.says("parse: the whole that T tells in base W: + or - or nothing, then digits of that base, one at least");
        EDGES.gives(7, "parse w0 \"7\" 10");
        EDGES.gives(7, "parse w0 \"+7\" 10");
        EDGES.gives(-7, "parse w0 \"-7\" 10");
        EDGES.gives(0, "parse w0 \"-0\" 10");
        EDGES.gives(7, "parse w0 \"+0007\" 10");
        EDGES.gives(1, "repeat v0 \"0\" 399", "join v0 v0 \"1\"", "parse w0 v0 2");
        for (String name : new String[] {"parse", "small"}) {
            for (String wrong : new String[] {"", "+", "-", "--1", "+-1", "-+1", "++1", "1-", "1+", " 1", "1 ", "1 2", "/", ":", "1/",
                "1:", "1.", "a", "\\uff11", "\\u0661", "\\u00b2", "\\u0000"}) {
                EDGES.refused(2, name + " w0 \"" + wrong + "\" 10");
            }
        }
        EDGES.says("(0 .. 9, letters a .. z of both cases from 10 on)");
        EDGES.gives(1, "parse w0 \"1\" 2");
        EDGES.refused(2, "parse w0 \"2\" 2");
        EDGES.gives(9, "parse w0 \"9\" 10");
        EDGES.refused(2, "parse w0 \"9\" 9");
        EDGES.gives(10, "parse w0 \"a\" 11");
        EDGES.gives(10, "parse w0 \"A\" 11");
        EDGES.refused(2, "parse w0 \"b\" 11");
        EDGES.refused(2, "parse w0 \"B\" 11");
        EDGES.gives(35, "parse w0 \"z\" 36");
        EDGES.gives(35, "parse w0 \"Z\" 36");
        EDGES.refused(2, "parse w0 \"z\" 35");
        for (String wrong : new String[] {"@", "[", "`", "{", "/", ":", "\\uff21", "\\u0131"}) {
            EDGES.refused(2, "parse w0 \"" + wrong + "\" 36");
        }
        EDGES.says("the base is not 2 .. 36");
        for (String base : new String[] {"1", "0", "-1", "37", "4294967306", "-9223372036854775808", "9223372036854775807"}) {
            EDGES.refused(2, "parse w0 \"1\" " + base);
            EDGES.refused(2, "small w0 \"1\" " + base);
            EDGES.refused(2, "parse w0 \"0\" " + base);
        }
        EDGES.says("it is not so, or not within 64 bits");
        EDGES.gives(Long.MAX_VALUE, "parse w0 \"9223372036854775807\" 10");
        EDGES.gives(Long.MAX_VALUE, "parse w0 \"+9223372036854775807\" 10");
        EDGES.gives(Long.MIN_VALUE, "parse w0 \"-9223372036854775808\" 10");
        EDGES.gives(Long.MIN_VALUE, "parse w0 \"-1" + "0".repeat(63) + "\" 2");
        EDGES.gives(Long.MAX_VALUE, "parse w0 \"" + "1".repeat(63) + "\" 2");
        EDGES.gives(Long.MAX_VALUE, "parse w0 \"1y2p0ij32e8e7\" 36");
        EDGES.gives(Long.MIN_VALUE, "parse w0 \"-1Y2P0IJ32E8E8\" 36");
        for (String wrong : new String[] {"9223372036854775808\" 10", "+9223372036854775808\" 10", "-9223372036854775809\" 10",
            "18446744073709551616\" 10", "1" + "0".repeat(63) + "\" 2", "-1" + "0".repeat(62) + "01\" 2", "1y2p0ij32e8e8\" 36",
            "-1y2p0ij32e8e9\" 36", "9".repeat(400) + "\" 10"}) {
            EDGES.refused(2, "parse w0 \"" + wrong);
        }
        EDGES.says("small: likewise within 32 bits.");
        EDGES.gives(Integer.MAX_VALUE, "small w0 \"2147483647\" 10");
        EDGES.gives(Integer.MAX_VALUE, "small w0 \"+7fffffff\" 16");
        EDGES.gives(Integer.MIN_VALUE, "small w0 \"-2147483648\" 10");
        EDGES.gives(Integer.MIN_VALUE, "small w0 \"-80000000\" 16");
        EDGES.gives(2147483648L, "parse w0 \"2147483648\" 10");
        for (String wrong : new String[] {"2147483648", "+2147483648", "-2147483649", "4294967296", "9223372036854775807",
            "-9223372036854775808", "9223372036854775808", "99999999999999999999"}) {
            EDGES.refused(2, "small w0 \"" + wrong + "\" 10");
        }
    }

    private static void marks() {
        EDGES.says("mark: MARKS get W.");
        EDGES.marksAre("0 -1 9223372036854775807 -9223372036854775808",
            "mark 0", "mark -1", "mark 9223372036854775807", "mark -9223372036854775808");
        EDGES.marksAre("7 8", "plus w0 7 0", "mark w0", "plus w0 8 0", "mark w0");
    }
}
