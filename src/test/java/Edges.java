import java.util.Arrays;

/**
 * What the edge tests ask. Every check belongs to the sentence of the document that was quoted
 * last, so that a wrong answer tells which sentence is broken.
 */
final class Edges {
    private final String name;
    private final Checks checks = new Checks();
    private String sentence = "";
    private int askedBefore = 0;

    Edges(String name) {
        this.name = name;
    }

    /** Quotes the sentence that the checks from here on belong to. */
    void says(String quoted) {
        endSentence();
        sentence = quoted;
    }

    /** A sentence without a check would look tested and not be so. */
    private void endSentence() {
        if (!sentence.isEmpty() && checks.asked() == askedBefore) {
            checks.due("checks of '" + sentence + "'", 0, 1);
        }
        askedBefore = checks.asked();
    }

    void end() {
        endSentence();
        checks.end(name);
    }

    void due(String what, long got, long want) {
        checks.due("'" + sentence + "': " + what, got, want);
    }

    void due(String what, String got, String want) {
        checks.due("'" + sentence + "': " + what, got, want);
    }

    private static String shown(String... lines) {
        String program = String.join("/", lines).replace('\n', '/');
        return program.length() <= 300 ? program : program.substring(0, 300) + " ..";
    }

    // ---- reading

    void compiles(int steps, String program) {
        due("compile of " + shown(program), Tapes.compile(new TextLessons(), program), steps);
    }

    /** The program, without the ^ in it, has its FAULT at the place of the ^. */
    void fault(String program) {
        int place = program.indexOf('^');
        String bytes = program.replace("^", "");
        due("compile of " + shown(program), Tapes.compile(new TextLessons(), bytes), -1 - place);
    }

    // ---- running

    /** The STEPS are all done: the object. */
    TextLessons fine(String... lines) {
        TextLessons x = Tapes.ran(lines);
        due("the end of " + shown(lines), x.ended(0) + " " + x.ended(1), "-1 0");
        return x;
    }

    /** The last STEP is refused by a KIND, ends the run, and changes nothing. */
    void refused(int kind, String... lines) {
        int last = lines.length - 1;
        TextLessons x = Tapes.ran(lines);
        due("the end of " + shown(lines), x.ended(0) + " by " + x.ended(1), last + " by " + kind);
        // The STEP that is passed over keeps its LITERALS in the POOL.
        String[] passed = Arrays.copyOf(lines, lines.length + 1);
        passed[last] = "if 0 1";
        passed[last + 1] = lines[last];
        due("what is refused changes nothing: " + shown(lines), Tapes.state(x), Tapes.state(Tapes.ran(passed)));
    }

    /** w0 behind the STEPS. */
    void gives(long want, String... lines) {
        due("w0 of " + shown(lines), fine(lines).whole(0), want);
    }

    /** v1 behind the STEPS is v0's own object. */
    void isT(String... lines) {
        due("v1 is v0: " + shown(lines), fine(lines).same(0, 1), 1);
    }

    /** v1 behind the STEPS is a new object with these units; EMPTY if there are none. */
    void becomes(String want, String... lines) {
        String[] more = Arrays.copyOf(lines, lines.length + 1);
        more[lines.length] = "set v19 \"\"";
        TextLessons x = fine(more);
        due("v1 of " + shown(lines), Tapes.text(x, 1), want);
        due("v1 is EMPTY: " + shown(lines), x.same(1, 19), want.isEmpty() ? 1 : 0);
        due("v1 is in the POOL: " + shown(lines), x.pooled(1), want.isEmpty() ? 1 : 0);
        for (int v = 0; v < 19; v++) {
            if (v != 1 && !want.isEmpty()) {
                due("v1 is v" + v + ": " + shown(lines), x.same(1, v), 0);
            }
        }
    }

    /** The units and the ROOM of b0 behind the STEPS. */
    void builds(String units, int room, String... lines) {
        TextLessons x = fine(lines);
        due("b0 of " + shown(lines), Tapes.builder(x, 0), units);
        due("ROOM of b0 of " + shown(lines), x.builder(0, 1), room);
    }

    /** How many PARTS there are behind the STEPS, and these with | between two. */
    void partsAre(int count, String parts, String... lines) {
        TextLessons x = fine(lines);
        due("PARTS of " + shown(lines), x.parts() + ":" + Tapes.parts(x), count + ":" + parts);
    }

    /** The MARKS behind the STEPS, with a blank between two, whether or not one was refused. */
    void marksAre(String want, String... lines) {
        due("MARKS of " + shown(lines), Tapes.marks(Tapes.ran(lines)), want);
    }
}
