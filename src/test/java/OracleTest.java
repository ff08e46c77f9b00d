import java.util.ArrayList;
import java.util.List;
import java.util.Random;

/** Random programs, most of them right, held against the Model: every answer of every method. */
public final class OracleTest {
    private static final int ROUNDS = 6000;
    private static final Checks CHECKS = new Checks();
    private static final String[] LITERALS = {
        "\"\"", "\"a\"", "\"ab\"", "\"aba\"", "\"abab\"", "\"A\"", "\" a b \"", "\"\\t\\n a\\u2003\"", "\"true\"",
        "\"TRUE\"", "\"12\"", "\"-7\"", "\"+7f\"", "\"9223372036854775808\"", "\"-9223372036854775808\"",
        "\"2147483648\"", "\"-2147483648\"", "\"\\ud83d\\ude00\"", "\"\\ude00\\ud83d\\ud83d\"", "\"\\ud83d\"",
        "\"x\\ud83d\\ude00y\\ude00\"", "\"stra\\u00dfe\\u0149\\u0130\"", "\"\\u0131I\\u017f\\u00b5\\u00ff\"",
        "\"a,b,,c,,\"", "\",,\"", "\"x\\u000d\\ny\\n\\nz\\u000d\"", "\"\\n\"", "\"\\\"\\\\\"", "\"null\"", "\"\\u0061\"",
        "\"0123456789012345678901234567890123456789\"", "\",,,,,,,,,,,,,,,,,,,,,,,,,\"", "\"\\uffff\\u0000\""};
    private static final String[] NUMBERS = {
        "0", "1", "2", "3", "4", "5", "-1", "-2", "-3", "7", "10", "16", "24", "25", "36", "37", "44", "97", "98", "65",
        "100", "200", "399", "400", "401", "65535", "65536", "128512", "55357", "56832", "1114111", "1114112",
        "9223372036854775807", "-9223372036854775808", "4294967296", "4294967297", "-4294967296", "007", "-0", "-007"};

    private final Random random;
    private final List<String> lines = new ArrayList<>();
    /** How many of four STEPS stand in a catch of their own. */
    private int caught = 0;

    private OracleTest(long seed) {
        random = new Random(seed);
    }

    public static void main(String[] args) {
        int rounds = args.length > 0 ? Integer.parseInt(args[0]) : ROUNDS;
        for (int seed = 0; seed < rounds && CHECKS.wrong() < 20; seed++) {
            new OracleTest(seed).round(seed);
        }
        CHECKS.end("OracleTest");
    }

    private void round(int seed) {
        TextLessons x = new TextLessons();
        Model model = new Model();
        compare("seed " + seed + " new", x, model);
        for (int turn = 0; turn < 2; turn++) {
            String label = "seed " + seed + " turn " + turn;
            String tape = tape();
            CHECKS.due(label + " feed", Tapes.feed(x, tape), tape.length());
            model.tape = tape;
            int wrongBefore = CHECKS.wrong();
            CHECKS.due(label + " compile", x.compile(), model.compile());
            compare(label + " compiled", x, model);
            CHECKS.due(label + " run", x.run(), model.run());
            compare(label + " ran", x, model);
            CHECKS.due(label + " shrink", x.shrink(), model.shrink());
            compare(label + " shrunk", x, model);
            if (CHECKS.wrong() > wrongBefore) {
                System.out.println("the TAPE was:\n" + tape);
            }
        }
    }

    private static void compare(String label, TextLessons x, Model m) {
        CHECKS.due(label + " ended", x.ended(0) + " " + x.ended(1) + " " + x.ended(2) + " " + x.ended(3),
            m.endedStep + " " + m.endedKind + " " + m.doneCount + " " + m.refusedCount);
        for (int sort = 0; sort < 56; sort++) {
            CHECKS.due(label + " done " + sort, x.done(sort), m.done[sort]);
        }
        StringBuilder steps = new StringBuilder();
        for (int k = 0; m.program != null && k < m.program.size(); k++) {
            Model.Step step = m.program.get(k);
            steps.append(k > 0 ? "/" : "").append(Model.spelled(step));
            CHECKS.due(label + " step " + k, x.step(k, 0) + " " + x.step(k, 1), step.sort() + " " + step.words().size());
        }
        CHECKS.due(label + " spelled", Tapes.allSpelled(x), steps.toString());
        for (int v = 0; v < 20; v++) {
            Model.Txt text = m.v[v];
            CHECKS.due(label + " v" + v, Tapes.text(x, v), text == null ? "MISSING" : text.s);
            CHECKS.due(label + " hash " + v, x.hash(v), text == null ? 0 : text.s.hashCode());
            CHECKS.due(label + " pooled " + v, x.pooled(v), text == null ? -1 : m.pool.contains(text) ? 1 : 0);
            for (int u = 0; u < 20; u++) {
                CHECKS.due(label + " same " + v + " " + u, x.same(v, u), text != null && text == m.v[u] ? 1 : 0);
            }
        }
        CHECKS.due(label + " pool", x.pool(), m.pool.size());
        for (int w = 0; w < 12; w++) {
            CHECKS.due(label + " w" + w, x.whole(w), m.w[w]);
        }
        for (int b = 0; b < 6; b++) {
            CHECKS.due(label + " b" + b, Tapes.builder(x, b), m.b[b] == null ? "NONE" : m.b[b].toString());
            CHECKS.due(label + " room " + b, x.builder(b, 1), m.b[b] == null ? -1 : m.b[b].capacity());
        }
        CHECKS.due(label + " parts", x.parts(), m.parts.size());
        for (int k = 0; k < m.parts.size(); k++) {
            CHECKS.due(label + " part " + k, Tapes.part(x, k), m.parts.get(k).s);
            CHECKS.due(label + " partOf " + k, x.partOf(k), List.of(wrapped(m.v)).indexOf(new Same(m.parts.get(k))));
        }
        CHECKS.due(label + " marks", x.marks(), m.marks.size());
        for (int k = 0; k < m.marks.size(); k++) {
            CHECKS.due(label + " mark " + k, x.mark(k), m.marks.get(k));
        }
    }

    /** Equal only to itself, as a Txt is. */
    private record Same(Object text) {
    }

    private static Same[] wrapped(Model.Txt[] texts) {
        Same[] all = new Same[texts.length];
        for (int i = 0; i < all.length; i++) {
            all[i] = new Same(texts[i]);
        }
        return all;
    }

    // ---- making programs

    private String tape() {
        lines.clear();
        List<String> given = new ArrayList<>();
        caught = random.nextInt(4);
        if (random.nextInt(4) > 0) {
            given.addAll(List.of("v0", "v1", "v2", "v3", "w0", "w1", "b0", "b1"));
            lines.addAll(List.of("set v0 " + literal(), "copy v1 " + literal(), "set v2 " + LITERALS[21 - random.nextInt(5)],
                random.nextBoolean() ? "null v3" : "join v3 v0 v1 v2", "plus w0 0 " + number(), "length w1 v2",
                "open b0 " + literal(), "fresh b1 " + random.nextInt(5), "split v2 97 -1"));
        }
        int most = 1 + random.nextInt(random.nextInt(4) == 0 ? 51 : 20);
        addSteps(most, given);
        String tape = String.join("\n", lines);
        while (tape.length() > 2900) {
            tape = tape.substring(0, tape.lastIndexOf('\n'));
        }
        if (random.nextInt(3) == 0) {
            tape = spoiled(tape);
        }
        return tape;
    }

    /** Adds STEPS; what is given before them is known, and what they give is dropped behind them. */
    private void addSteps(int count, List<String> before) {
        List<String> given = new ArrayList<>(before);
        int made = 0;
        while (made < count) {
            int sort = random.nextInt(8) == 0 ? 53 + random.nextInt(2) : random.nextInt(56);
            String name = Model.NAMES.get(sort);
            String[] shape = Model.SHAPES.get(sort);
            boolean makesBuilder = name.equals("fresh") || name.equals("open");
            StringBuilder line = new StringBuilder(name);
            String gift = null;
            boolean fine = true;
            for (int i = 0; i < shape.length && !shape[i].equals("N"); i++) {
                boolean gives = i == 0 && (shape[0].equals("v") || shape[0].equals("w") || makesBuilder);
                int times = shape[i].startsWith("{") ? random.nextInt(8) : 1;
                for (int t = 0; t < times; t++) {
                    String word = gives ? fresh(shape[i]) : used(shape[i].replaceAll("[{}]", ""), given);
                    fine &= word != null;
                    gift = gives ? word : gift;
                    line.append(random.nextInt(20) == 0 ? "  " : " ").append(word);
                }
            }
            if (!fine) {
                continue;
            }
            made++;
            if (sort >= 53 && sort <= 54) {
                int inside = Math.min(count - made, random.nextInt(5));
                lines.add(line + " " + inside);
                addSteps(inside, given);
                made += inside;
            } else if (made < count && random.nextInt(4) < caught) {
                made++;
                String kind = fresh("w");
                lines.add("catch " + kind + " 1");
                lines.add(line.toString());
                // What a STEP in a catch gives is GIVEN behind it only if it was so before.
                gift = kind;
            } else {
                lines.add(line.toString());
            }
            if (gift != null) {
                given.add(gift);
            }
        }
    }

    private String fresh(String letter) {
        int most = letter.equals("v") ? 20 : letter.equals("w") ? 12 : 6;
        return letter + random.nextInt(random.nextBoolean() ? 4 : most);
    }

    private String used(String letter, List<String> given) {
        switch (letter) {
            case "T":
                return random.nextInt(3) == 0 ? literal() : orElse(pick(given, "v"), literal());
            case "W":
                return random.nextInt(3) > 0 ? number() : orElse(pick(given, "w"), number());
            case "b":
                return random.nextInt(60) == 0 ? "b0" : pick(given, "b");
            default:
                int way = random.nextInt(6);
                String sign = way == 0 ? "@" : way == 1 ? "?" : "";
                return way <= 2 ? sign + used("W", given)
                    : way == 3 ? orElse(pick(given, "b"), literal()) : used("T", given);
        }
    }

    private static String orElse(String word, String other) {
        return word == null ? other : word;
    }

    private String pick(List<String> given, String letter) {
        if (random.nextInt(300) == 0) {
            return fresh(letter);
        }
        List<String> fit = new ArrayList<>();
        for (String name : given) {
            if (name.startsWith(letter)) {
                fit.add(name);
            }
        }
        return fit.isEmpty() ? null : fit.get(random.nextInt(fit.size()));
    }

    private String literal() {
        return LITERALS[random.nextInt(random.nextInt(4) == 0 ? LITERALS.length : 12)];
    }

    private String number() {
        if (random.nextInt(10) == 0) {
            return Long.toString(random.nextLong() >> random.nextInt(64));
        }
        return NUMBERS[random.nextInt(random.nextInt(3) == 0 ? NUMBERS.length : 10)];
    }

    /** Changes, drops or adds a few bytes. */
    private String spoiled(String tape) {
        StringBuilder bytes = new StringBuilder(tape);
        int times = 1 + random.nextInt(3);
        String likely = " \n\"\\0123456789vbw@?-uNaX\t\u00e9";
        for (int i = 0; i < times && bytes.length() > 0; i++) {
            int place = random.nextInt(bytes.length());
            char b = likely.charAt(random.nextInt(likely.length()));
            switch (random.nextInt(3)) {
                case 0 -> bytes.setCharAt(place, b);
                case 1 -> bytes.deleteCharAt(place);
                default -> bytes.insert(place, b);
            }
        }
        return bytes.toString();
    }
}
