import java.math.BigInteger;
import java.util.ArrayList;
import java.util.Arrays;
import java.util.LinkedHashMap;
import java.util.List;
import java.util.Locale;
import java.util.Map;
import java.util.TreeSet;
import java.util.regex.Matcher;
import java.util.regex.Pattern;

/**
 * The document a second time, by other means: Java's own strings, builders and exceptions do the
 * STEPS, and patterns read the words. OracleTest holds the class against it.
 */
final class Model {
    static final String STEPS = "set v T, null v, copy v T, intern v T, join v X {X}, same w T T, equal w T T, "
        + "alike w T T, order w T T, hash w T, length w T, unit w T W, point w T W, before w T W, points w T W W, "
        + "offset w T W W, part v T W W, trim v T, strip v T, repeat v T W, change v T W W, replace v T T T, "
        + "find w T T W, last w T T W, seek w T W W, begins w T T W, ends w T T, split T W W, lines T, piece v W, "
        + "pieces w, weave v T, upper v T, lower v T, fresh b W, open b T, add b X, insert b W X, delete b W W, "
        + "put b W W, turn b, size b W, text v b, room w b, first w b b, from v W {W}, number v W W, parse w T W, "
        + "small w T W, truth w T, plus w W W, minus w W W, times w W W, if W N, catch w N, mark W";

    static final List<String> NAMES = new ArrayList<>();
    static final List<String[]> SHAPES = new ArrayList<>();

    static {
        for (String step : STEPS.split(", ")) {
            String[] words = step.split(" ");
            NAMES.add(words[0]);
            SHAPES.add(Arrays.copyOfRange(words, 1, words.length));
        }
    }

    private static final Map<String, Pattern> PATTERNS = Map.of(
        "v", Pattern.compile("v(1[0-9]|[0-9])"),
        "b", Pattern.compile("b[0-5]"),
        "w", Pattern.compile("w(1[01]|[0-9])"),
        "N", Pattern.compile("[0-9][0-9]?"),
        "number", Pattern.compile("-?[0-9]+"),
        "literal", Pattern.compile("\"([ !#-\\[\\]-~]|\\\\[\"\\\\nt]|\\\\u[0-9a-fA-F]{4})*\""));

    /** A text: an object of its own. */
    static final class Txt {
        final String s;

        Txt(String s) {
            this.s = s;
        }
    }

    static final class Refusal extends RuntimeException {
        private static final long serialVersionUID = 1;
        final int kind;

        Refusal(int kind) {
            super(null, null, false, false);
            this.kind = kind;
        }
    }

    /** A word: as it stands, where it stands, and the units of a LITERAL. */
    record Word(String as, int place, String literal) {
        boolean is(String sort) {
            return literal == null && PATTERNS.get(sort).matcher(as).matches()
                && (!sort.equals("number") || new BigInteger(as).bitLength() < 64);
        }

        boolean isW() {
            return is("w") || is("number");
        }

        boolean isSigned() {
            return literal == null && (as.startsWith("@") || as.startsWith("?"));
        }

        Word behindSign() {
            return new Word(as.substring(1), place, null);
        }

        int number() {
            return Integer.parseInt(as.substring(1));
        }

        String spelled() {
            if (literal != null) {
                return spell(literal);
            }
            if (isSigned()) {
                return as.charAt(0) + behindSign().spelled();
            }
            return is("number") ? new BigInteger(as).toString() : as;
        }
    }

    record Step(int sort, List<Word> words) {
        int n() {
            return Integer.parseInt(words.get(1).as);
        }

        boolean opens() {
            return NAMES.get(sort).equals("if") || NAMES.get(sort).equals("catch");
        }

        Step withN(int n) {
            Word old = words.get(1);
            return new Step(sort, List.of(words.get(0), new Word(Integer.toString(n), old.place, null)));
        }
    }

    private static final class Fault extends RuntimeException {
        private static final long serialVersionUID = 1;
        final int place;

        Fault(int place) {
            super(null, null, false, false);
            this.place = place;
        }
    }

    String tape = "";
    List<Step> program = null;
    Txt empty = new Txt("");
    List<Txt> pool = new ArrayList<>(List.of(empty));
    Txt[] v = new Txt[20];
    long[] w = new long[12];
    StringBuilder[] b = new StringBuilder[6];
    List<Txt> parts = new ArrayList<>();
    List<Long> marks = new ArrayList<>();
    int endedStep = -1;
    int endedKind = 0;
    int doneCount = 0;
    int refusedCount = 0;
    int[] done = new int[56];
    private Map<String, Txt> literals = new LinkedHashMap<>();

    static String spell(String units) {
        StringBuilder s = new StringBuilder("\"");
        for (char c : units.toCharArray()) {
            if (c == '"' || c == '\\') {
                s.append('\\').append(c);
            } else if (c == '\n') {
                s.append("\\n");
            } else if (c == '\t') {
                s.append("\\t");
            } else if (c >= 32 && c <= 126) {
                s.append(c);
            } else {
                s.append(String.format("\\u%04x", (int) c));
            }
        }
        return s.append('"').toString();
    }

    static String spelled(Step step) {
        StringBuilder s = new StringBuilder(NAMES.get(step.sort));
        for (Word word : step.words) {
            s.append(' ').append(word.spelled());
        }
        return s.toString();
    }

    // ---- reading

    int compile() {
        String bytes = tape;
        tape = "";
        List<Step> read = new ArrayList<>();
        try {
            TreeSet<String> unlike = new TreeSet<>();
            int place = 0;
            for (String line : bytes.split("\n", -1)) {
                readLine(line, place, read, unlike);
                place += line.length() + 1;
            }
            judge(read, 0, read.size(), new TreeSet<>());
        } catch (Fault fault) {
            return -1 - fault.place;
        }
        program = read;
        begin(program);
        return program.size();
    }

    private static void readLine(String line, int place, List<Step> read, TreeSet<String> unlike) {
        int at = 0;
        Step step = null;
        String[] shape = null;
        while (true) {
            while (at < line.length() && line.charAt(at) == ' ') {
                at++;
            }
            if (at == line.length()) {
                break;
            }
            Word word = readWord(line, at, place);
            if (step == null) {
                int sort = word.literal == null ? NAMES.indexOf(word.as) : -1;
                if (sort < 0 || read.size() == 60) {
                    throw new Fault(place + at);
                }
                step = new Step(sort, new ArrayList<>());
                shape = SHAPES.get(sort);
                read.add(step);
            } else {
                check(word, letter(shape, step.words.size()));
                if (word.literal != null) {
                    unlike.add(word.literal);
                    if (unlike.size() > 24) {
                        throw new Fault(word.place);
                    }
                }
                step.words.add(word);
            }
            at += word.as.length();
        }
        if (step != null && step.words.size() < least(shape)) {
            throw new Fault(place + line.length());
        }
    }

    private static int least(String[] shape) {
        return shape[shape.length - 1].startsWith("{") ? shape.length - 1 : shape.length;
    }

    /** The letter of word i; null if there is none. */
    private static String letter(String[] shape, int i) {
        String last = shape[shape.length - 1];
        if (last.startsWith("{")) {
            return i == 0 ? shape[0] : i <= 8 ? shape[1] : null;
        }
        return i < shape.length ? shape[i] : null;
    }

    private static Word readWord(String line, int at, int place) {
        if (line.charAt(at) != '"') {
            int end = line.indexOf(' ', at);
            return new Word(line.substring(at, end < 0 ? line.length() : end), place + at, null);
        }
        Matcher m = PATTERNS.get("literal").matcher(line).region(at, line.length());
        if (!m.lookingAt() || m.end() < line.length() && line.charAt(m.end()) != ' ') {
            throw new Fault(place + at);
        }
        String as = m.group();
        StringBuilder units = new StringBuilder();
        for (int i = 1; i < as.length() - 1; i++) {
            char c = as.charAt(i);
            if (c == '\\') {
                i++;
                switch (as.charAt(i)) {
                    case 'n' -> units.append('\n');
                    case 't' -> units.append('\t');
                    case 'u' -> {
                        units.append((char) Integer.parseInt(as.substring(i + 1, i + 5), 16));
                        i += 4;
                    }
                    default -> units.append(as.charAt(i));
                }
            } else {
                units.append(c);
            }
        }
        if (units.length() > 400) {
            throw new Fault(place + at);
        }
        return new Word(as, place + at, units.toString());
    }

    private static void check(Word word, String letter) {
        boolean isT = word.literal != null || word.is("v");
        boolean so = letter != null && switch (letter) {
            case "v", "b", "w", "N" -> word.is(letter);
            case "T" -> isT;
            case "W" -> word.isW();
            default -> isT || word.isW() || word.is("b") || word.isSigned() && word.behindSign().isW();
        };
        if (!so) {
            throw new Fault(word.place);
        }
    }

    /** Judges STEPS from .. end - 1, with what is GIVEN before them. */
    private static void judge(List<Step> steps, int from, int end, TreeSet<String> before) {
        TreeSet<String> given = new TreeSet<>(before);
        int k = from;
        while (k < end) {
            Step step = steps.get(k);
            String name = NAMES.get(step.sort);
            String[] shape = SHAPES.get(step.sort);
            for (int i = 0; i < step.words.size(); i++) {
                Word word = step.words.get(i);
                String letter = letter(shape, i);
                if (letter.equals("N")) {
                    if (k + 1 + step.n() > end) {
                        throw new Fault(word.place);
                    }
                    continue;
                }
                boolean gift = i == 0 && (letter.equals("v") || letter.equals("w")
                    || name.equals("fresh") || name.equals("open"));
                String used = word.literal != null ? "" : word.isSigned() ? word.behindSign().as : word.as;
                if (!gift && used.matches("[vwb].*") && !given.contains(used)) {
                    throw new Fault(word.place);
                }
            }
            if (step.opens()) {
                judge(steps, k + 1, k + 1 + step.n(), given);
                k += step.n();
            }
            String first = step.words.get(0).as;
            String letter = shape[0];
            if (letter.equals("v") || letter.equals("w") || name.equals("fresh") || name.equals("open")) {
                given.add(first);
            }
            k++;
        }
    }

    // ---- running

    private void begin(List<Step> steps) {
        empty = new Txt("");
        pool = new ArrayList<>(List.of(empty));
        literals = new LinkedHashMap<>();
        literals.put("", empty);
        for (Step step : steps) {
            for (Word word : step.words) {
                if (word.literal != null && !literals.containsKey(word.literal)) {
                    Txt text = new Txt(word.literal);
                    literals.put(word.literal, text);
                    pool.add(text);
                }
            }
        }
        v = new Txt[20];
        w = new long[12];
        b = new StringBuilder[6];
        parts = new ArrayList<>();
        marks = new ArrayList<>();
        endedStep = -1;
        endedKind = 0;
        doneCount = 0;
        refusedCount = 0;
        done = new int[56];
    }

    int run() {
        if (program == null) {
            return -2;
        }
        return run(program);
    }

    private int run(List<Step> steps) {
        begin(steps);
        try {
            run(steps, 0, steps.size());
            return 0;
        } catch (Refusal refusal) {
            endedKind = refusal.kind;
            return 1 + endedStep;
        }
    }

    private void run(List<Step> steps, int from, int end) {
        int k = from;
        while (k < end) {
            Step step = steps.get(k);
            String name = NAMES.get(step.sort);
            if (!step.opens()) {
                try {
                    perform(name, step.words);
                } catch (Refusal refusal) {
                    refusedCount++;
                    endedStep = k;
                    throw refusal;
                }
            }
            doneCount++;
            done[step.sort]++;
            if (name.equals("catch")) {
                int kind = 0;
                try {
                    run(steps, k + 1, k + 1 + step.n());
                } catch (Refusal refusal) {
                    endedStep = -1;
                    kind = refusal.kind;
                }
                w[step.words.get(0).number()] = kind;
                k += step.n();
            } else if (name.equals("if")) {
                if (whole(step.words.get(0)) != 0) {
                    run(steps, k + 1, k + 1 + step.n());
                }
                k += step.n();
            }
            k++;
        }
    }

    int shrink() {
        if (program == null || endedKind == 0) {
            return -2;
        }
        int kind = endedKind;
        int size;
        do {
            size = program.size();
            for (int k = size - 1; k >= 0; k--) {
                List<Step> left = without(program, k);
                if (isJudged(left) && run(left) != 0 && endedKind == kind) {
                    program = left;
                }
            }
        } while (program.size() < size);
        run(program);
        return program.size();
    }

    private static List<Step> without(List<Step> steps, int k) {
        List<Step> left = new ArrayList<>();
        for (int j = 0; j < steps.size(); j++) {
            Step step = steps.get(j);
            if (step.opens() && j < k && k <= j + step.n()) {
                step = step.withN(step.n() - 1);
            }
            if (j != k) {
                left.add(step);
            }
        }
        return left;
    }

    private static boolean isJudged(List<Step> steps) {
        try {
            judge(steps, 0, steps.size(), new TreeSet<>());
            return true;
        } catch (Fault fault) {
            return false;
        }
    }

    private long whole(Word word) {
        return word.is("w") ? w[word.number()] : Long.parseLong(word.as);
    }

    private Txt text(Word word) {
        return word.literal != null ? literals.get(word.literal) : v[word.number()];
    }

    private static void refuseUnless(boolean fine, int kind) {
        if (!fine) {
            throw new Refusal(kind);
        }
    }

    private static boolean isUnit(long n) {
        return n >= 0 && n <= 65535;
    }

    private static boolean isPoint(long n) {
        return n >= 0 && n <= 0x10FFFF;
    }

    private String x(Word word) {
        if (word.literal != null) {
            return word.literal;
        }
        if (word.isSigned()) {
            long n = whole(word.behindSign());
            if (word.as.charAt(0) == '?') {
                return String.valueOf(n != 0);
            }
            refuseUnless(isPoint(n), 3);
            return Character.toString((int) n);
        }
        if (word.is("v")) {
            return text(word) == null ? "null" : text(word).s;
        }
        return word.is("b") ? b[word.number()].toString() : Long.toString(whole(word));
    }

    private Txt interned(Txt text) {
        for (Txt pooled : pool) {
            if (pooled.s.equals(text.s)) {
                return pooled;
            }
        }
        pool.add(text);
        return text;
    }

    private Txt become(String s) {
        refuseUnless(s.length() <= 400, 5);
        return s.isEmpty() ? empty : new Txt(s);
    }

    private Txt becomeUnless(boolean stays, Txt text, String s) {
        return stays ? text : become(s);
    }

    /** A whole as an int of the same standing to all places of texts. */
    private static int near(long n) {
        return (int) Math.max(-5000, Math.min(5000, n));
    }

    private void perform(String name, List<Word> words) {
        Word first = words.get(0);
        switch (name) {
            case "mark" -> {
                refuseUnless(marks.size() < 30, 5);
                marks.add(whole(first));
            }
            case "split", "lines" -> cutUp(name, words);
            case "fresh", "open", "add", "insert", "delete", "put", "turn", "size" -> build(name, words);
            default -> {
                if (first.as.charAt(0) == 'v') {
                    v[first.number()] = giveText(name, words);
                } else {
                    w[first.number()] = giveWhole(name, words);
                }
            }
        }
    }

    private Txt present(Word word) {
        Txt text = text(word);
        refuseUnless(text != null, 4);
        return text;
    }

    private void cutUp(String name, List<Word> words) {
        Txt text = present(words.get(0));
        List<String> cut = new ArrayList<>();
        if (name.equals("lines")) {
            text.s.lines().forEach(cut::add);
        } else {
            long unit = whole(words.get(1));
            refuseUnless(isUnit(unit), 3);
            cut.addAll(splitAt(text.s, (char) unit, near(whole(words.get(2)))));
        }
        refuseUnless(cut.size() <= 24, 5);
        List<Txt> made = new ArrayList<>();
        for (String s : cut) {
            made.add(s.length() == text.s.length() ? text : become(s));
        }
        parts = made;
    }

    private static List<String> splitAt(String s, char unit, int most) {
        // A pattern would not find half a PAIR, so halves change places with units from far off.
        if (!Character.isSurrogate(unit)) {
            return List.of(s.split(Pattern.quote(String.valueOf(unit)), most));
        }
        char stand = '\uE123';
        List<String> cut = new ArrayList<>();
        for (String piece : splitAt(s.replace(unit, stand), stand, most)) {
            cut.add(piece.replace(stand, unit));
        }
        return cut;
    }

    private Txt giveText(String name, List<Word> words) {
        if (name.equals("null")) {
            return null;
        }
        if (name.equals("set")) {
            return text(words.get(1));
        }
        if (name.equals("join")) {
            return join(words);
        }
        if (name.equals("from")) {
            StringBuilder s = new StringBuilder();
            for (Word word : words.subList(1, words.size())) {
                refuseUnless(isPoint(whole(word)), 3);
                s.appendCodePoint((int) whole(word));
            }
            return become(s.toString());
        }
        if (name.equals("number")) {
            return become(Long.toString(whole(words.get(1)), near(whole(words.get(2)))));
        }
        if (name.equals("text")) {
            return become(b[words.get(1).number()].toString());
        }
        if (name.equals("piece")) {
            long k = whole(words.get(1));
            refuseUnless(k >= 0 && k < parts.size(), 1);
            return parts.get((int) k);
        }
        return changed(name, present(words.get(1)), words);
    }

    private Txt join(List<Word> words) {
        StringBuilder s = new StringBuilder();
        boolean constant = true;
        for (Word word : words.subList(1, words.size())) {
            s.append(x(word));
            Word inner = word.isSigned() ? word.behindSign() : word;
            constant &= inner.literal != null || inner.is("number");
        }
        refuseUnless(s.length() <= 400, 5);
        Txt made = new Txt(s.toString());
        return constant ? interned(made) : made;
    }

    private Txt changed(String name, Txt text, List<Word> words) {
        String s = text.s;
        switch (name) {
            case "copy":
                return new Txt(s);
            case "intern":
                return interned(text);
            case "weave":
                List<String> woven = new ArrayList<>();
                parts.forEach(part -> woven.add(part.s));
                return become(String.join(s, woven));
            case "trim":
                return becomeUnless(s.trim().length() == s.length(), text, s.trim());
            case "strip":
                return becomeUnless(s.strip().length() == s.length(), text, s.strip());
            case "upper":
            case "lower":
                String other = cased(s, name.equals("upper"));
                return becomeUnless(other.equals(s), text, other);
            case "repeat":
                long times = whole(words.get(2));
                refuseUnless(times >= 0, 3);
                return becomeUnless(times == 1, text, s.isEmpty() ? "" : s.repeat(near(times)));
            case "part":
                long from = whole(words.get(2));
                long to = whole(words.get(3));
                refuseUnless(0 <= from && from <= to && to <= s.length(), 1);
                String part = s.substring((int) from, (int) to);
                return becomeUnless(part.length() == s.length(), text, part);
            case "change":
                long old = whole(words.get(2));
                long young = whole(words.get(3));
                refuseUnless(isUnit(old) && isUnit(young), 3);
                String renewed = s.replace((char) old, (char) young);
                return becomeUnless(renewed.equals(s), text, renewed);
            case "replace":
                Txt sought = present(words.get(2));
                Txt place = present(words.get(3));
                return becomeUnless(!s.contains(sought.s), text, s.replace(sought.s, place.s));
            default:
                throw new IllegalStateException(name);
        }
    }

    private static String cased(String s, boolean up) {
        StringBuilder other = new StringBuilder();
        for (char c : s.toCharArray()) {
            String unit = String.valueOf(c);
            if (c < 384) {
                unit = up ? unit.toUpperCase(Locale.ROOT) : unit.toLowerCase(Locale.ROOT);
            }
            other.append(unit);
        }
        return other.toString();
    }

    static boolean areAlike(char a, char b) {
        char upperA = a < 384 ? Character.toUpperCase(a) : a;
        char upperB = b < 384 ? Character.toUpperCase(b) : b;
        char lowerA = upperA < 384 ? Character.toLowerCase(upperA) : upperA;
        char lowerB = upperB < 384 ? Character.toLowerCase(upperB) : upperB;
        return a == b || upperA == upperB || lowerA == lowerB;
    }

    static boolean areAlike(String a, String b) {
        boolean alike = a.length() == b.length();
        for (int i = 0; alike && i < a.length(); i++) {
            alike = areAlike(a.charAt(i), b.charAt(i));
        }
        return alike;
    }

    private long giveWhole(String name, List<Word> words) {
        switch (name) {
            case "pieces":
                return parts.size();
            case "room":
                return b[words.get(1).number()].capacity();
            case "first":
                return b[words.get(1).number()].compareTo(b[words.get(2).number()]);
            case "plus":
                return whole(words.get(1)) + whole(words.get(2));
            case "minus":
                return whole(words.get(1)) - whole(words.get(2));
            case "times":
                return whole(words.get(1)) * whole(words.get(2));
            case "parse":
            case "small":
                return parsed(text(words.get(1)), near(whole(words.get(2))), name.equals("small"));
            case "truth":
                return text(words.get(1)) != null && areAlike(text(words.get(1)).s, "true") ? 1 : 0;
            case "same":
                return text(words.get(1)) == text(words.get(2)) ? 1 : 0;
            default:
                return asked(name, present(words.get(1)).s, words);
        }
    }

    private static long parsed(Txt text, int base, boolean small) {
        refuseUnless(text != null && text.s.chars().allMatch(c -> c < 128), 2);
        try {
            return small ? Integer.parseInt(text.s, base) : Long.parseLong(text.s, base);
        } catch (NumberFormatException e) {
            throw new Refusal(2);
        }
    }

    private long asked(String name, String s, List<Word> words) {
        if (words.size() == 2) {
            return name.equals("hash") ? s.hashCode() : s.length();
        }
        Word third = words.get(2);
        if (name.equals("equal") || name.equals("alike")) {
            Txt other = text(third);
            boolean so = other != null && (name.equals("equal") ? s.equals(other.s) : areAlike(s, other.s));
            return so ? 1 : 0;
        }
        if (List.of("order", "find", "last", "begins", "ends").contains(name)) {
            String other = present(third).s;
            int place = words.size() > 3 ? near(whole(words.get(3))) : 0;
            return switch (name) {
                case "order" -> s.compareTo(other);
                case "find" -> s.indexOf(other, place);
                case "last" -> s.lastIndexOf(other, place);
                case "begins" -> s.startsWith(other, place) ? 1 : 0;
                default -> s.endsWith(other) ? 1 : 0;
            };
        }
        int second = near(words.size() > 3 ? whole(words.get(3)) : 0);
        if (name.equals("seek")) {
            long point = whole(third);
            return isPoint(point) ? s.indexOf((int) point, second) : -1;
        }
        int place = near(whole(third));
        try {
            return switch (name) {
                case "unit" -> s.charAt(place);
                case "point" -> s.codePointAt(place);
                case "before" -> s.codePointBefore(place);
                case "points" -> s.codePointCount(place, second);
                case "offset" -> s.offsetByCodePoints(place, second);
                default -> throw new IllegalStateException(name);
            };
        } catch (IndexOutOfBoundsException e) {
            throw new Refusal(1);
        }
    }

    private void build(String name, List<Word> words) {
        int i = words.get(0).number();
        StringBuilder builder = b[i];
        switch (name) {
            case "fresh" -> {
                long room = whole(words.get(1));
                refuseUnless(room >= 0 && room <= 400, 3);
                b[i] = new StringBuilder((int) room);
            }
            case "open" -> b[i] = new StringBuilder(present(words.get(1)).s);
            case "turn" -> builder.reverse();
            case "add" -> {
                String x = x(words.get(1));
                refuseUnless(builder.length() + x.length() <= 400, 5);
                builder.append(x);
            }
            case "insert" -> {
                long place = whole(words.get(1));
                refuseUnless(place >= 0 && place <= builder.length(), 1);
                String x = x(words.get(2));
                refuseUnless(builder.length() + x.length() <= 400, 5);
                builder.insert((int) place, x);
            }
            case "size" -> {
                long size = whole(words.get(1));
                refuseUnless(size >= 0, 1);
                refuseUnless(size <= 400, 5);
                builder.setLength((int) size);
            }
            case "put" -> {
                long place = whole(words.get(1));
                refuseUnless(place >= 0 && place < builder.length(), 1);
                refuseUnless(isUnit(whole(words.get(2))), 3);
                builder.setCharAt((int) place, (char) whole(words.get(2)));
            }
            default -> {
                try {
                    builder.delete(near(whole(words.get(1))), near(whole(words.get(2))));
                } catch (IndexOutOfBoundsException e) {
                    throw new Refusal(1);
                }
            }
        }
    }
}
