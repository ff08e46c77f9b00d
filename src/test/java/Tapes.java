/** Feeds bytes, written as characters 0 to 255, to a TextLessons, and reads back what it holds. */
final class Tapes {
    private Tapes() {
    }

    /** Feeds the bytes, padded to twenties with blanks that are cut off again: the TAPE's length. */
    static int feed(TextLessons x, String bytes) {
        int size = x.cut(0);
        for (int i = 0; i < bytes.length(); i += 20) {
            StringBuilder twenty = new StringBuilder(bytes.substring(i, Math.min(i + 20, bytes.length())));
            int lacking = 20 - twenty.length();
            twenty.append(" ".repeat(lacking));
            int[] five = new int[5];
            for (int j = 0; j < 20; j++) {
                five[j / 4] = five[j / 4] << 8 | twenty.charAt(j);
            }
            size = x.feed(five[0], five[1], five[2], five[3], five[4]);
            if (size != TextLessons.NONE && lacking > 0) {
                size = x.cut(lacking);
            }
        }
        return size;
    }

    static int compile(TextLessons x, String program) {
        feed(x, program);
        return x.compile();
    }

    /** A new object with the program, which has been run. */
    static TextLessons ran(String... lines) {
        TextLessons x = new TextLessons();
        int steps = compile(x, String.join("\n", lines));
        if (steps < 0) {
            System.out.println("the test's program has a FAULT at " + (-1 - steps) + ": " + String.join(" / ", lines));
            System.exit(1);
        }
        x.run();
        return x;
    }

    static String text(TextLessons x, int v) {
        if (x.length(v) == TextLessons.NONE) {
            return "MISSING";
        }
        StringBuilder units = new StringBuilder();
        for (int i = 0; i < x.length(v); i++) {
            units.append((char) x.unit(v, i));
        }
        return units.toString();
    }

    static String builder(TextLessons x, int b) {
        if (x.builder(b, 0) == TextLessons.NONE) {
            return "NONE";
        }
        StringBuilder units = new StringBuilder();
        for (int i = 0; i < x.builder(b, 0); i++) {
            units.append((char) x.builderUnit(b, i));
        }
        return units.toString();
    }

    static String part(TextLessons x, int k) {
        StringBuilder units = new StringBuilder();
        for (int i = 0; x.partUnit(k, i) != TextLessons.NONE; i++) {
            units.append((char) x.partUnit(k, i));
        }
        return units.toString();
    }

    /** All PARTS, with | between two. */
    static String parts(TextLessons x) {
        StringBuilder all = new StringBuilder();
        for (int k = 0; k < x.parts(); k++) {
            all.append(k > 0 ? "|" : "").append(part(x, k));
        }
        return all.toString();
    }

    static String spelled(TextLessons x, int k) {
        StringBuilder bytes = new StringBuilder();
        for (int i = 0; x.spelled(k, i) != TextLessons.NONE; i++) {
            bytes.append((char) x.spelled(k, i));
        }
        return bytes.toString();
    }

    /** All STEPS as they are spelled, with / between two. */
    static String allSpelled(TextLessons x) {
        StringBuilder all = new StringBuilder();
        for (int k = 0; x.step(k, 0) != TextLessons.NONE; k++) {
            all.append(k > 0 ? "/" : "").append(spelled(x, k));
        }
        return all.toString();
    }

    /** All MARKS, with a blank between two. */
    static String marks(TextLessons x) {
        StringBuilder all = new StringBuilder();
        for (int k = 0; k < x.marks(); k++) {
            all.append(k > 0 ? " " : "").append(x.mark(k));
        }
        return all.toString();
    }

    /** What the latest run did: ended() and done(). */
    static String course(TextLessons x) {
        StringBuilder all = new StringBuilder();
        for (int what = 0; what < 4; what++) {
            all.append(x.ended(what)).append(' ');
        }
        for (int sort = 0; sort < 56; sort++) {
            all.append(x.done(sort));
        }
        return all.toString();
    }

    /** All that a run has: texts and which of them are one, the POOL, wholes, builders, PARTS, MARKS. */
    static String state(TextLessons x) {
        StringBuilder all = new StringBuilder();
        for (int v = 0; v < 20; v++) {
            if (x.length(v) != TextLessons.NONE) {
                int first = 0;
                while (first < v && x.same(first, v) != 1) {
                    first++;
                }
                all.append("v").append(v).append(" is v").append(first).append(x.pooled(v) == 1 ? " pooled " : " ");
                all.append(text(x, v)).append('/');
            }
        }
        all.append(x.pool()).append(" pooled/");
        for (int w = 0; w < 12; w++) {
            all.append(x.whole(w)).append(' ');
        }
        for (int b = 0; b < 6; b++) {
            all.append("/b").append(b).append(' ').append(x.builder(b, 1)).append(' ').append(builder(x, b));
        }
        for (int k = 0; k < x.parts(); k++) {
            all.append("/PART ").append(x.partOf(k)).append(' ').append(part(x, k));
        }
        return all.append('/').append(marks(x)).toString();
    }
}
