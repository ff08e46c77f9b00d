/** The edges that the document's Terms name in their first part: units, texts, letters, BLANKS. */
public final class UnitEdgesTest {
    private static final Edges EDGES = new Edges("UnitEdgesTest");

    public static void main(String[] args) {
        units();
        pairs();
        points();
        limit();
        constancy();
        hash();
        order();
        wholes();
        lower();
        upper();
        ones();
        alikeTexts();
        blanks();
        EDGES.end();
    }

    /** A LITERAL with these units. */
    private static String literal(int... units) {
        StringBuilder s = new StringBuilder("\"");
        for (int unit : units) {
            s.append(String.format("\\u%04x", unit));
        }
        return s.append('"').toString();
    }

    private static void units() {
        EDGES.says("A UNIT is 0 ..");
        EDGES.gives(0, "unit w0 " + literal(0) + " 0");
        EDGES.gives(65535, "unit w0 " + literal(65535) + " 0");
        EDGES.builds("\0", 17, "open b0 \"a\"", "put b0 0 0");
        EDGES.builds("\uffff", 17, "open b0 \"a\"", "put b0 0 65535");
        EDGES.refused(3, "open b0 \"a\"", "put b0 0 65536");
        EDGES.refused(3, "open b0 \"a\"", "put b0 0 -1");
    }

    private static void pointsIn(int want, int... units) {
        EDGES.gives(want, "points w0 " + literal(units) + " 0 " + units.length);
    }

    private static void pairs() {
        EDGES.says("HIGH ones are 55296 .. 56319, LOW ones 56320 .. 57343");
        pointsIn(1, 55296, 56320);
        pointsIn(1, 56319, 56320);
        pointsIn(1, 55296, 57343);
        pointsIn(1, 56319, 57343);
        pointsIn(2, 55295, 56320);
        pointsIn(2, 56320, 56320);
        pointsIn(2, 55296, 56319);
        pointsIn(2, 55296, 57344);
        EDGES.says("a HIGH one and a LOW one right behind it are a PAIR");
        pointsIn(3, 55296, 97, 56320);
        pointsIn(2, 56320, 55296);
        EDGES.says("the POINT 65536 + 1024 * (HIGH - 55296) + (LOW - 56320)");
        EDGES.gives(65536, "point w0 " + literal(55296, 56320) + " 0");
        EDGES.gives(66559, "point w0 " + literal(55296, 57343) + " 0");
        EDGES.gives(66560, "point w0 " + literal(55297, 56320) + " 0");
        EDGES.gives(1114111, "point w0 " + literal(56319, 57343) + " 0");
        EDGES.says("any other unit is a POINT by itself");
        pointsIn(1, 55296);
        pointsIn(1, 56320);
        pointsIn(2, 55296, 55296, 56320);
        pointsIn(2, 55296, 56320, 56320);
        pointsIn(2, 55295, 57344);
    }

    private static void points() {
        EDGES.says("A POINT's units: itself below 65536, else its PAIR");
        EDGES.becomes("\uffff", "from v1 65535");
        EDGES.becomes("\ud800\udc00", "from v1 65536");
        EDGES.becomes("\ud800\udfff", "from v1 66559");
        EDGES.becomes("\ud801\udc00", "from v1 66560");
        EDGES.becomes("\ud800", "from v1 55296");
        EDGES.says("POINTS are 0 .. 1114111");
        EDGES.becomes("\0", "from v1 0");
        EDGES.becomes("\udbff\udfff", "from v1 1114111");
        EDGES.refused(3, "from v1 1114112");
        EDGES.refused(3, "from v1 -1");
    }

    private static void limit() {
        EDGES.says("A TEXT is an object with UNITS, 400 at most");
        String x400 = "repeat v0 \"x\" 400";
        String x399 = "repeat v0 \"x\" 399";
        EDGES.due("length of 400", EDGES.fine(x400).length(0), 400);
        EDGES.refused(5, "repeat v0 \"x\" 401");
        EDGES.due("copy of 400", EDGES.fine(x400, "copy v1 v0").length(1), 400);
        EDGES.due("join of 400", EDGES.fine(x399, "join v1 v0 \"y\"").length(1), 400);
        EDGES.refused(5, x400, "join v1 v0 \"y\"");
        EDGES.due("replace to 400", EDGES.fine("repeat v0 \"x\" 200", "replace v1 v0 \"x\" \"yy\"").length(1), 400);
        EDGES.refused(5, "repeat v0 \"x\" 201", "replace v1 v0 \"x\" \"yy\"");
        EDGES.due("upper to 400", EDGES.fine("repeat v0 \"\\u00df\" 200", "upper v1 v0").length(1), 400);
        EDGES.refused(5, "repeat v0 \"\\u00df\" 200", "join v0 v0 \"x\"", "upper v1 v0");
        EDGES.due("lower to 400", EDGES.fine("repeat v0 \"\\u0130\" 200", "lower v1 v0").length(1), 400);
        EDGES.refused(5, "repeat v0 \"\\u0130\" 200", "join v0 v0 \"X\"", "lower v1 v0");
        EDGES.due("weave of 400", EDGES.fine("repeat v0 \"x\" 398", "split \"a,b\" 44 0", "weave v1 v0").length(1), 400);
        EDGES.refused(5, x399, "split \"a,b\" 44 0", "weave v1 v0");
        EDGES.due("text of 400", EDGES.fine(x400, "open b0 v0", "text v1 b0").length(1), 400);
        EDGES.says("at places from 0");
        EDGES.gives(97, "unit w0 \"ab\" 0");
        EDGES.gives(120, x400, "unit w0 v0 399");
    }

    private static void constancy() {
        EDGES.says("it never changes");
        EDGES.due("by a change of a builder", Tapes.text(EDGES.fine("open b0 \"ab\"", "text v1 b0", "put b0 0 120"), 1), "ab");
        EDGES.due("nor one from which a builder was made", Tapes.text(EDGES.fine("set v1 \"ab\"", "open b0 v1", "turn b0"), 1), "ab");
        EDGES.due("by a change of another v", Tapes.text(EDGES.fine("set v0 \"ab\"", "set v1 v0", "upper v0 v0"), 1), "ab");
        EDGES.due("by a new one in its own v", Tapes.text(EDGES.fine("copy v0 \"ab\"", "lines v0", "upper v0 v0", "piece v1 0"), 1), "ab");
    }

    private static void hash() {
        EDGES.says("Its HASH: 0, and for each unit, in order, 31 times it and the unit, with 32 bits and sign, wrapping");
        EDGES.gives(0, "hash w0 \"\"");
        EDGES.gives(0, "hash w0 " + literal(0));
        EDGES.gives(65535, "hash w0 " + literal(65535));
        EDGES.gives(31 * 97 + 98, "hash w0 \"ab\"");
        EDGES.gives(31 * 98 + 97, "hash w0 \"ba\"");
        EDGES.gives(-2147483648L, "hash w0 \"polygenelubricants\"");
        EDGES.gives("\uffff".repeat(400).hashCode(), "repeat v0 " + literal(65535) + " 400", "hash w0 v0");
    }

    private static void order() {
        EDGES.says("at the first place at which they differ the first's unit less the second's");
        EDGES.gives(65535, "order w0 " + literal(65535) + " " + literal(0));
        EDGES.gives(-65535, "order w0 " + literal(0) + " " + literal(65535));
        EDGES.gives(-1, "order w0 \"axz\" \"ayb\"");
        EDGES.gives(1, "order w0 \"b\" \"abc\"");
        EDGES.says("if there is none, the first's length less the other's");
        EDGES.gives(0, "order w0 \"\" \"\"");
        EDGES.gives(0, "copy v0 \"ab\"", "order w0 \"ab\" v0");
        EDGES.gives(2, "order w0 \"abc\" \"a\"");
        EDGES.gives(-3, "order w0 \"\" \"abc\"");
        EDGES.gives(-1, "set v0 \"q\"", "order w0 \"ab\" \"abc\"");
        EDGES.gives(1, "set v0 \"q\"", "order w0 \"abc\" \"ab\"");
        EDGES.gives(400, "repeat v0 \"x\" 400", "order w0 v0 \"\"");
    }

    private static void wholes() {
        EDGES.says("Wholes have 64 bits, and wrap.");
        EDGES.gives(Long.MIN_VALUE, "plus w0 9223372036854775807 1");
        EDGES.gives(Long.MAX_VALUE, "plus w0 -9223372036854775808 -1");
        EDGES.gives(Long.MAX_VALUE, "minus w0 -9223372036854775808 1");
        EDGES.gives(Long.MIN_VALUE, "minus w0 9223372036854775807 -1");
        EDGES.gives(Long.MIN_VALUE, "minus w0 0 -9223372036854775808");
        EDGES.gives(Long.MIN_VALUE, "times w0 -9223372036854775808 -1");
        EDGES.gives(-2, "times w0 9223372036854775807 2");
        EDGES.gives(0, "times w0 4294967296 4294967296");
        EDGES.gives(4294967296L, "plus w0 4294967295 1");
    }

    /** The STEP changes a unit to these; v1 is v0 if it stays. */
    private static void changes(String name, int unit, int... want) {
        StringBuilder units = new StringBuilder();
        for (int each : want) {
            units.append((char) each);
        }
        String[] lines = {"set v0 " + literal(unit), name + " v1 v0"};
        if (want.length == 1 && want[0] == unit) {
            EDGES.isT(lines);
        } else {
            EDGES.becomes(units.toString(), lines);
        }
    }

    /** Units, in twos: each first one becomes the second. */
    private static void allChange(String name, int... twos) {
        for (int i = 0; i + 1 < twos.length; i += 2) {
            changes(name, twos[i], twos[i + 1]);
        }
    }

    private static void stay(String name, int... units) {
        for (int unit : units) {
            changes(name, unit, unit);
        }
    }

    private static void lower() {
        EDGES.says("LOWER of a unit u: 65 .. 90 and 192 .. 222 but 215: u + 32");
        allChange("lower", 65, 97, 90, 122, 192, 224, 214, 246, 216, 248, 222, 254);
        stay("lower", 64, 91, 191, 215, 223);
        EDGES.says("even ones of 256 .. 302, 306 .. 310, 330 .. 374");
        allChange("lower", 256, 257, 258, 259, 302, 303, 306, 307, 308, 309, 310, 311, 330, 331, 374, 375);
        stay("lower", 254, 257, 301, 303, 305, 307, 309, 311, 312, 328, 331, 373, 375);
        EDGES.says("odd ones of 313 .. 327, 377 .. 381: u + 1");
        allChange("lower", 313, 314, 315, 316, 327, 328, 377, 378, 379, 380, 381, 382);
        stay("lower", 314, 326, 329, 378, 380, 382, 383, 384);
        EDGES.says("376: 255");
        changes("lower", 376, 255);
        EDGES.says("304: the two units 105 775");
        changes("lower", 304, 105, 775);
        EDGES.becomes("ai\u0307b", "lower v1 " + literal(65, 304, 66));
        EDGES.says("others u");
        stay("lower", 0, 97, 122, 385, 452, 913, 1040, 7838, 8491, 55296, 65313, 65535);
    }

    private static void upper() {
        EDGES.says("UPPER of u: 97 .. 122 and 224 .. 254 but 247: u - 32");
        allChange("upper", 97, 65, 122, 90, 224, 192, 246, 214, 248, 216, 254, 222);
        stay("upper", 96, 123, 222, 247);
        EDGES.says("odd ones of 257 .. 303, 307 .. 311, 331 .. 375");
        allChange("upper", 257, 256, 259, 258, 303, 302, 307, 306, 309, 308, 311, 310, 331, 330, 375, 374);
        stay("upper", 256, 258, 302, 304, 306, 310, 312, 313, 327, 330, 374, 376, 377);
        EDGES.says("even ones of 314 .. 328, 378 .. 382: u - 1");
        allChange("upper", 314, 313, 316, 315, 328, 327, 378, 377, 380, 379, 382, 381);
        stay("upper", 315, 325, 379, 381);
        EDGES.says("255: 376; 181: 924; 305: 73; 383: 83");
        allChange("upper", 255, 376, 181, 924, 305, 73, 383, 83);
        stay("upper", 180, 182, 384);
        EDGES.says("223: the two 83 83");
        changes("upper", 223, 83, 83);
        EDGES.becomes("ASSB", "upper v1 " + literal(97, 223, 98));
        EDGES.says("329: the two 700 78");
        changes("upper", 329, 700, 78);
        EDGES.says("others u");
        stay("upper", 0, 65, 90, 453, 945, 1072, 7830, 56320, 65345, 65535);
    }

    /** Whether two units are ALIKE, whichever stands first. */
    private static void alike(int want, int a, int b) {
        EDGES.gives(want, "alike w0 " + literal(a) + " " + literal(b));
        EDGES.gives(want, "alike w0 " + literal(b) + " " + literal(a));
    }

    private static void ones() {
        EDGES.says("ONE of LOWER or UPPER is that if it is one unit, else u (but of LOWER of 304: 105)");
        alike(0, 223, 83);
        alike(0, 223, 115);
        alike(0, 329, 700);
        alike(0, 329, 78);
        alike(0, 329, 110);
        alike(1, 304, 105);
        alike(1, 304, 73);
        alike(0, 304, 775);
        EDGES.says("Two units are ALIKE if they are one");
        alike(1, 223, 223);
        alike(1, 329, 329);
        alike(1, 0, 0);
        alike(1, 65535, 65535);
        alike(0, 0, 65535);
        EDGES.says("or their ONES of UPPER are");
        alike(1, 97, 65);
        alike(1, 90, 122);
        alike(0, 64, 96);
        alike(0, 91, 123);
        alike(0, 215, 247);
        alike(1, 181, 924);
        alike(0, 181, 956);
        alike(1, 255, 376);
        alike(1, 305, 105);
        alike(1, 305, 73);
        alike(1, 383, 115);
        alike(1, 383, 83);
        alike(0, 311, 312);
        alike(0, 312, 313);
        alike(0, 375, 376);
        EDGES.says("or the ONES of LOWER of these are; two texts");
        alike(1, 304, 305);
    }

    private static void alikeTexts() {
        EDGES.says("two texts, if they have as many units, each ALIKE");
        EDGES.gives(1, "alike w0 \"\" \"\"");
        EDGES.gives(0, "alike w0 \"\" \"a\"");
        EDGES.gives(0, "alike w0 \"a\" \"\"");
        EDGES.gives(0, "alike w0 \"ab\" \"ABC\"");
        EDGES.gives(0, "alike w0 \"abc\" \"AB\"");
        EDGES.gives(0, "alike w0 " + literal(223) + " \"SS\"");
        EDGES.gives(1, "alike w0 \"aBc\" \"AbC\"");
        EDGES.gives(0, "alike w0 \"xbc\" \"AbC\"");
        EDGES.gives(0, "alike w0 \"aBx\" \"AbC\"");
    }

    private static void blanks() {
        EDGES.says("BLANKS are 9 .. 13, 28 .. 32, 5760, 8192 .. 8202 but 8199, 8232, 8233, 8287, 12288.");
        for (int blank : new int[] {9, 10, 11, 12, 13, 28, 29, 31, 32, 5760, 8192, 8198, 8200, 8202, 8232, 8233, 8287, 12288}) {
            EDGES.becomes("", "set v0 " + literal(blank), "strip v1 v0");
            EDGES.becomes("a", "strip v1 " + literal(blank, 97, blank));
        }
        for (int other : new int[] {0, 8, 14, 27, 33, 133, 160, 5759, 5761, 6158, 8191, 8199, 8203, 8231, 8234, 8239, 8286, 8288,
            12287, 12289, 65279, 65535}) {
            EDGES.isT("set v0 " + literal(other, 97, other), "strip v1 v0");
        }
    }
}
