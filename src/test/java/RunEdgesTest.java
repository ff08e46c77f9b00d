import java.util.Arrays;

/** The edges that the document's Terms name of a RUN: its beginning, refusals, if, catch, MISSING. */
public final class RunEdgesTest {
    private static final Edges EDGES = new Edges("RunEdgesTest");
    private static final String X400 = "repeat v0 \"x\" 400";

    public static void main(String[] args) {
        beginning();
        pool();
        nothingChanges();
        nothingIsLeftOver();
        orderOfKinds();
        roomForUnits();
        manyTexts();
        roomForPartsAndMarks();
        ifs();
        catches();
        nestedCatches();
        uncaught();
        missing();
        EDGES.end();
    }

    private static String[] and(String[] lines, String... more) {
        String[] all = Arrays.copyOf(lines, lines.length + more.length);
        System.arraycopy(more, 0, all, lines.length, more.length);
        return all;
    }

    private static void beginning() {
        EDGES.says("A RUN begins with all v MISSING (null), no builders, no MARKS, no PARTS");
        TextLessons x = EDGES.fine("pieces w0", "mark w0", "set v0 \"a,b\"", "fresh b0 3", "add b0 \"xy\"", "split v0 44 0",
            "join v2 v0 1", "intern v3 v2");
        String once = Tapes.state(x);
        x.run();
        x.run();
        EDGES.due("all of a third run", Tapes.state(x), once);
        EDGES.due("MARKS of a third run", Tapes.marks(x), "0");
        Tapes.compile(x, "if 0 3\nset v0 \"a\"\nfresh b0 1\nsplit \"\" 1 1\nif 0 1\nmark 1");
        x.run();
        EDGES.due("a v that is passed over", x.length(0), -1);
        EDGES.due("a v of another program", x.length(2), -1);
        EDGES.due("builders", x.builder(0, 0), -1);
        EDGES.due("PARTS", x.parts(), 0);
        EDGES.due("MARKS", x.marks(), 0);
    }

    private static void pool() {
        EDGES.says("in the POOL are EMPTY (a text without units) and the program's LITERALS");
        EDGES.due("EMPTY alone", EDGES.fine("mark 1").pool(), 1);
        EDGES.due("one LITERAL", EDGES.fine("length w0 \"a\"").pool(), 2);
        EDGES.due("one that is passed over", EDGES.fine("if 0 1", "set v0 \"a\"").pool(), 2);
        EDGES.due("what a former run put there is gone", EDGES.fine("join v0 \"a\" \"b\"").pool(), 4);
        TextLessons x = EDGES.fine("join v0 \"a\" \"b\"");
        x.run();
        EDGES.due("in a second run, too", x.pool(), 4);
        EDGES.says("(of EQUAL ones one object; one without units is EMPTY)");
        EDGES.due("EQUAL ones", EDGES.fine("set v0 \"a\"", "set v1 \"\\u0061\"", "set v2 \"A\"").pool(), 3);
        EDGES.isT("set v0 \"a\"", "set v1 \"\\u0061\"");
        EDGES.due("one without units", EDGES.fine("set v0 \"\"").pool(), 1);
        EDGES.isT("set v0 \"\"", "trim v1 \" \"");
    }

    private static void nothingChanges() {
        EDGES.says("A STEP that is refused changes nothing");
        String[] before = {"set v0 \"abc\"", "plus w0 3 4", "split \"a,b\" 44 0", "mark 5", "repeat v5 \"x\" 400", "open b0 \"ab\"",
            "open b1 v5", "null v6"};
        String[] ofIndex = {"unit w0 v0 3", "point w0 v0 3", "before w0 v0 0", "points w0 v0 2 1", "offset w0 v0 0 4",
            "part v0 v0 2 1", "piece v0 2", "insert b0 3 \"x\"", "delete b0 2 1", "put b0 2 65", "size b0 -1"};
        String[] ofForm = {"parse w0 v0 10", "small w0 v0 10"};
        String[] ofArgument = {"repeat v0 v0 -1", "change v0 v0 97 65536", "join v0 \"abc\" @-1", "split v0 -1 0", "fresh b0 401",
            "fresh b2 -1", "add b0 @-1", "insert b0 0 @-1", "put b0 1 65536", "from v0 97 -1"};
        String[] ofMissing = {"copy v0 v6", "intern v0 v6", "length w0 v6", "lines v6", "split v6 44 0", "weave v0 v6", "open b0 v6",
            "open b2 v6", "upper v0 v6"};
        String[] ofRoom = {"repeat v0 v0 134", "join v0 v5 \"a\"", "join v0 \"" + "y".repeat(300) + "\" \"" + "z".repeat(101) + "\"",
            "split v5 120 -1", "weave v0 v5", "add b0 v5", "insert b0 1 v5", "size b0 401", "add b1 \"x\"", "insert b1 0 0",
            "replace v0 v5 \"x\" \"yy\""};
        String[][] byKind = {{}, ofIndex, ofForm, ofArgument, ofMissing, ofRoom};
        for (int kind = 1; kind <= 5; kind++) {
            for (String step : byKind[kind]) {
                EDGES.refused(kind, and(before, step));
            }
        }
        EDGES.refused(5, and(before, and(marked(29), "mark 2")));
    }

    /** Behind a refusal that is caught the next STEP is done as if it had not been. */
    private static void nothingIsLeftOver() {
        EDGES.says("A STEP that is refused changes nothing; KINDS");
        EDGES.becomes("ab", "catch w0 1", "repeat v0 \"x\" 401", "copy v0 \"a\"", "join v1 v0 \"b\"");
        EDGES.becomes("ab", "catch w0 1", "join v0 \"a\" @-1", "copy v0 \"a\"", "join v1 v0 \"b\"");
        EDGES.becomes("AB", "repeat v0 \"\\u00df\" 201", "catch w0 1", "upper v1 v0", "upper v1 \"ab\"");
        EDGES.builds("ab", 18, X400, "open b0 \"a\"", "catch w0 1", "add b0 v0", "open b0 \"a\"", "add b0 \"b\"", "room w1 b0",
            "open b0 \"ab\"");
        EDGES.partsAre(2, "a|b", "repeat v0 \",\" 400", "catch w0 1", "split v0 44 -1", "split \"a,b\" 44 0");
        EDGES.partsAre(2, "a|b", "repeat v0 \"\\n\" 400", "catch w0 1", "lines v0", "lines \"a\\nb\"");
    }

    private static void orderOfKinds() {
        EDGES.says("4 of its T, as they stand; then as told; 5 at last");
        for (String step : new String[] {"unit w0 v0 -1", "point w0 v0 0", "before w0 v0 0", "points w0 v0 1 0",
            "offset w0 v0 -1 0", "part v1 v0 1 0", "repeat v1 v0 -1", "repeat v1 v0 401", "change v1 v0 -1 65536",
            "split v0 -1 0", "split v0 65536 0"}) {
            EDGES.refused(4, "null v0", step);
        }
        EDGES.refused(4, X400, "null v1", "replace v2 v0 \"x\" v1");
        EDGES.refused(4, X400, "null v1", "replace v2 v0 v1 v0");
        EDGES.refused(4, X400, "null v1", "replace v2 v1 \"\" v0");
        EDGES.refused(4, X400, "split \"a,b\" 44 0", "null v1", "weave v2 v1");
        EDGES.refused(3, X400, "join v1 v0 v0 @-1");
        EDGES.refused(3, X400, "join v1 @-1 v0 v0");
        EDGES.refused(3, X400, "open b0 v0", "add b0 @-1");
        EDGES.refused(3, X400, "open b0 v0", "insert b0 400 @1114112");
        EDGES.refused(1, X400, "open b0 v0", "insert b0 401 \"x\"");
        EDGES.refused(2, "null v0", "parse w0 v0 1");
    }

    private static void roomForUnits() {
        EDGES.says("a text or builder would have more than 400 units");
        EDGES.fine(X400, "join v1 v0 \"\"");
        EDGES.refused(5, X400, "join v1 v0 0");
        EDGES.refused(5, X400, "join v1 v0 v0 v0 v0 v0 v0 v0 v0");
        EDGES.refused(5, "repeat v0 \"x\" 399", "join v1 v0 @65536");
        EDGES.refused(5, X400, "join v1 \"y\" v0 \"\"");
        EDGES.due("a builder of 400", EDGES.fine("repeat v0 \"x\" 399", "open b0 v0", "add b0 1").builder(0, 0), 400);
        EDGES.refused(5, "repeat v0 \"x\" 399", "open b0 v0", "add b0 12");
        EDGES.refused(5, "repeat v0 \"x\" 399", "open b0 v0", "add b0 @65536");
        EDGES.due("200 and 200", EDGES.fine("repeat v0 \"x\" 200", "open b0 v0", "add b0 b0").builder(0, 0), 400);
        EDGES.refused(5, "repeat v0 \"x\" 201", "open b0 v0", "add b0 b0");
        EDGES.due("insert up to 400", EDGES.fine("repeat v0 \"x\" 399", "open b0 v0", "insert b0 0 1").builder(0, 0), 400);
        EDGES.refused(5, X400, "open b0 v0", "insert b0 0 \"y\"");
        EDGES.due("insert of none", EDGES.fine(X400, "open b0 v0", "insert b0 400 \"\"").builder(0, 0), 400);
        EDGES.due("size 400", EDGES.fine("fresh b0 0", "size b0 400").builder(0, 0), 400);
        EDGES.refused(5, "fresh b0 0", "size b0 401");
        EDGES.refused(5, "fresh b0 0", "size b0 4294967296");
        EDGES.refused(5, "fresh b0 0", "size b0 9223372036854775807");
    }

    private static String[] marked(int count) {
        String[] lines = new String[count];
        Arrays.fill(lines, "mark 1");
        return lines;
    }

    /** There is no limit for all texts together, however many a run makes. */
    private static void manyTexts() {
        EDGES.says("5 at last: a text or builder would have more than 400 units, there would be more than 24 PARTS, or 30 MARKS.");
        TextLessons x = EDGES.fine(X400 + "\n" + "copy v1 v0\n".repeat(58) + "copy v2 v1");
        EDGES.due("59 copies of 400 units", x.length(2) + " " + x.hash(2) + " " + x.same(1, 2), "400 " + x.hash(0) + " 0");
        String letters = "a,b,c,d,e,f,g,h,i,j,k,l,m,n,o,p,q,r,s,t,u,v,w,x";
        x = EDGES.fine("set v0 \"" + letters + "\"\n" + "split v0 44 0\n".repeat(59));
        EDGES.due("59 times 24 PARTS", Tapes.parts(x), letters.replace(',', '|'));
        x = EDGES.fine("set v0 \"" + letters + "\"\n" + "split v0 44 0\n".repeat(57) + "piece v1 22\npiece v2 23");
        EDGES.due("each is one by itself", x.partOf(22) + " " + x.partOf(23) + " " + x.same(1, 2), "1 2 0");
        String literals = "set v0 \"" + "x".repeat(400) + "\"\nset v1 \"" + "y".repeat(400) + "\"\nset v2 \"" + "z".repeat(400)
            + "\"\n";
        x = EDGES.fine(literals + "copy v3 v2\n".repeat(57));
        EDGES.due("LITERALS and copies", x.unit(3, 399) + " " + x.length(3) + " " + x.pooled(3), "122 400 0");
    }

    private static void roomForPartsAndMarks() {
        EDGES.says("there would be more than 24 PARTS");
        EDGES.due("24 of split", EDGES.fine("repeat v0 \",\" 23", "split v0 44 -1").parts(), 24);
        EDGES.refused(5, "repeat v0 \",\" 24", "split v0 44 -1");
        EDGES.due("24 at most", EDGES.fine("repeat v0 \",\" 400", "split v0 44 24").parts(), 24);
        EDGES.refused(5, "repeat v0 \",\" 400", "split v0 44 25");
        EDGES.refused(5, "repeat v0 \",\" 400", "split v0 44 -1");
        EDGES.due("those that go do not count", EDGES.fine("repeat v0 \",\" 400", "split v0 44 0").parts(), 0);
        EDGES.due("24 that stay", EDGES.fine("repeat v0 \"a,\" 24", "split v0 44 0").parts(), 24);
        EDGES.refused(5, "repeat v0 \"a,\" 25", "split v0 44 0");
        EDGES.due("24 lines", EDGES.fine("repeat v0 \"a\\n\" 24", "lines v0").parts(), 24);
        EDGES.refused(5, "repeat v0 \"a\\n\" 24", "join v0 v0 \"b\"", "lines v0");
        EDGES.refused(5, "repeat v0 \"\\n\" 25", "lines v0");
        EDGES.refused(5, "split \"a,b\" 44 0", "repeat v0 \"\\n\" 400", "lines v0");
        EDGES.says("or 30 MARKS");
        EDGES.due("30", EDGES.fine(marked(30)).marks(), 30);
        EDGES.refused(5, marked(31));
    }

    private static void ifs() {
        EDGES.says("if W N: if W is 0 its RANGE is passed over");
        EDGES.marksAre("2", "if 0 1", "mark 1", "mark 2");
        EDGES.marksAre("2", "if -0 1", "mark 1", "mark 2");
        EDGES.marksAre("1 2", "if 1 1", "mark 1", "mark 2");
        EDGES.marksAre("1 2", "if -1 1", "mark 1", "mark 2");
        EDGES.marksAre("1 2", "if -9223372036854775808 1", "mark 1", "mark 2");
        EDGES.marksAre("1 2", "if 4294967296 1", "mark 1", "mark 2");
        EDGES.marksAre("1", "if 0 0", "mark 1");
        EDGES.marksAre("", "if 0 2", "mark 1", "mark 2");
        EDGES.marksAre("0", "plus w0 0 0", "if w0 2", "if 1 1", "mark 1", "mark w0");
        EDGES.marksAre("3", "if 1 3", "if 0 2", "mark 1", "mark 2", "mark 3");
        EDGES.marksAre("1 3", "if 1 3", "mark 1", "if 0 1", "mark 2", "mark 3");
        EDGES.marksAre("3", "if 0 2", "catch w0 1", "mark 1", "mark 3");
        EDGES.due("the w of a catch that is passed over", EDGES.fine("plus w0 7 0", "if 0 2", "catch w0 1", "mark 1").whole(0), 7);
    }

    private static void catches() {
        EDGES.says("the rest of that is passed over, w is the KIND");
        EDGES.marksAre("1 1", "catch w0 3", "mark 1", "piece v0 0", "mark 2", "mark w0");
        EDGES.marksAre("1", "catch w0 2", "piece v0 0", "mark 2", "mark w0");
        EDGES.marksAre("1 2 1", "catch w0 3", "mark 1", "mark 2", "piece v0 0", "mark w0");
        EDGES.gives(1, "catch w0 1", "piece v0 0");
        EDGES.gives(2, "catch w0 1", "parse w1 \"\" 10");
        EDGES.gives(3, "catch w0 1", "fresh b0 -1");
        EDGES.gives(4, "null v0", "catch w0 1", "trim v0 v0");
        EDGES.gives(5, "catch w0 1", "repeat v0 \"x\" 401");
        EDGES.due("if in a catch", Tapes.marks(EDGES.fine("catch w0 3", "if 1 2", "piece v0 0", "mark 1", "mark w0")), "1");
        EDGES.says("if none came to it, w is 0 behind its RANGE");
        EDGES.gives(0, "plus w0 7 0", "catch w0 1", "mark 1");
        EDGES.gives(0, "plus w0 7 0", "catch w0 0");
        EDGES.gives(0, "catch w0 1", "plus w0 7 0");
        EDGES.marksAre("7 0", "plus w0 7 0", "catch w0 1", "mark w0", "mark w0");
        EDGES.marksAre("0", "plus w0 7 0", "catch w0 0", "mark w0");
        EDGES.marksAre("0", "plus w0 7 0", "catch w0 2", "if 0 1", "mark 1", "mark w0");
        EDGES.due("a former refusal", EDGES.fine("catch w0 1", "piece v0 0", "catch w0 1", "mark 1").whole(0), 0);
        TextLessons x = EDGES.fine("catch w3 1", "piece v0 0", "catch w11 1", "fresh b0 -1", "catch w5 1", "mark 1", "catch w0 1",
            "parse w1 \"\" 10");
        EDGES.due("one catch behind another", x.whole(3) + " " + x.whole(11) + " " + x.whole(5) + " " + x.whole(0), "1 3 0 2");
    }

    private static void nestedCatches() {
        EDGES.says("(it comes to that catch, of those in whose RANGES it stands, that stands last)");
        TextLessons x = EDGES.fine("catch w0 3", "catch w1 1", "fresh b0 -1", "mark 1", "mark 2");
        EDGES.due("the inner one", x.whole(0) + " " + x.whole(1) + " " + Tapes.marks(x), "0 3 1 2");
        x = EDGES.fine("catch w0 4", "catch w1 1", "mark 1", "fresh b0 -1", "mark 2", "mark 3");
        EDGES.due("the outer one, behind the inner RANGE", x.whole(0) + " " + x.whole(1) + " " + Tapes.marks(x), "3 0 1 3");
        x = EDGES.fine("catch w0 3", "fresh b0 -1", "catch w1 1", "mark 1", "mark 2");
        EDGES.due("the outer one, ahead of the inner", x.whole(0) + " " + x.whole(1) + " " + Tapes.marks(x), "3 0 2");
        x = EDGES.fine("catch w0 2", "catch w1 1", "fresh b0 -1", "mark 1");
        EDGES.due("both end there", x.whole(0) + " " + x.whole(1) + " " + Tapes.marks(x), "0 3 1");
        x = EDGES.fine("catch w0 3", "catch w1 2", "catch w2 1", "fresh b0 -1");
        EDGES.due("the innermost of three", x.whole(0) + " " + x.whole(1) + " " + x.whole(2), "0 0 3");
        x = EDGES.fine("catch w0 3", "catch w1 0", "fresh b0 -1", "mark 1", "mark 2");
        EDGES.due("an inner one without STEPS", x.whole(0) + " " + x.whole(1) + " " + Tapes.marks(x), "3 0 2");
        x = EDGES.fine("catch w0 4", "catch w1 1", "fresh b0 -1", "mark w1", "piece v0 0");
        EDGES.due("one each", x.whole(0) + " " + x.whole(1) + " " + Tapes.marks(x), "1 3 3");
    }

    private static void uncaught() {
        EDGES.says("A refusal that comes to no catch ends the run.");
        EDGES.refused(1, "piece v0 0");
        EDGES.refused(1, "catch w0 1", "mark 1", "piece v0 0");
        EDGES.refused(1, "catch w0 0", "piece v0 0");
        EDGES.refused(1, "catch w0 1", "fresh b0 -1", "piece v0 0");
        EDGES.due("in an if", Tapes.ran("if 1 2", "piece v0 0", "mark 1", "mark 2").run(), 2);
        EDGES.marksAre("1", "mark 1", "piece v0 0", "mark 2", "mark 3");
        TextLessons x = Tapes.ran("piece v0 0", "catch w0 1", "mark 1");
        EDGES.due("a catch behind it", x.ended(0) + " " + x.marks(), "0 0");
    }

    private static void missing() {
        EDGES.says("A T that is MISSING is refused (4), but where (0) is told.");
        for (String step : new String[] {"copy v1 v0", "intern v1 v0", "equal w0 v0 \"\"", "equal w0 v0 v0", "alike w0 v0 \"\"",
            "alike w0 v0 v0", "order w0 v0 \"\"", "order w0 \"\" v0", "hash w0 v0", "length w0 v0", "unit w0 v0 0", "point w0 v0 0",
            "before w0 v0 1", "points w0 v0 0 0", "offset w0 v0 0 0", "part v1 v0 0 0", "trim v1 v0", "strip v1 v0",
            "repeat v1 v0 1", "change v1 v0 1 1", "replace v1 v0 \"\" \"\"", "replace v1 \"\" v0 \"\"", "replace v1 \"\" \"\" v0",
            "find w0 v0 \"\" 0", "find w0 \"\" v0 0", "last w0 v0 \"\" 0", "last w0 \"\" v0 0", "seek w0 v0 1 0",
            "begins w0 v0 \"\" 0", "begins w0 \"\" v0 0", "ends w0 v0 \"\"", "ends w0 \"\" v0", "split v0 1 0", "lines v0",
            "weave v1 v0", "upper v1 v0", "lower v1 v0", "open b0 v0"}) {
            EDGES.refused(4, "null v0", step);
        }
        EDGES.says("set: v is T (MISSING, too)");
        EDGES.due("set", EDGES.fine("null v0", "set v1 \"a\"", "set v1 v0").length(1), -1);
        EDGES.says("(the second one may be MISSING: 0)");
        EDGES.gives(0, "null v0", "equal w0 \"\" v0");
        EDGES.gives(0, "null v0", "alike w0 \"\" v0");
        EDGES.says("(0: both may be)");
        EDGES.gives(1, "null v0", "null v1", "same w0 v0 v1");
        EDGES.gives(0, "null v0", "same w0 v0 \"\"");
        EDGES.gives(0, "null v0", "same w0 \"\" v0");
        EDGES.says("(0: MISSING too)");
        EDGES.gives(0, "null v0", "truth w0 v0");
        EDGES.says("of one that is MISSING null (four letters)");
        EDGES.becomes("null", "null v0", "join v1 v0");
        EDGES.builds("null", 4, "null v0", "fresh b0 4", "add b0 v0");
        EDGES.builds("anullb", 18, "null v0", "open b0 \"ab\"", "insert b0 1 v0");
        EDGES.says("2: T is MISSING");
        EDGES.refused(2, "null v0", "parse w0 v0 10");
        EDGES.refused(2, "null v0", "small w0 v0 10");
    }
}
