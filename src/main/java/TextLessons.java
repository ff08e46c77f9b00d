import java.util.Arrays;

/**
 * A bench for lessons on texts: small programs of steps on texts, builders and whole numbers are
 * read, judged, run, spelled out and made shorter.
 */
public final class TextLessons {
    public static final int NONE = -1;
    public static final int NO = -2;

    private static final int TAPE_LIMIT = 3000;
    private static final int STEP_LIMIT = 60;
    private static final int WORD_LIMIT = 9 * STEP_LIMIT;
    private static final int UNIT_LIMIT = 400;
    private static final int LITERAL_LIMIT = 24;
    private static final int PART_LIMIT = 24;
    private static final int MARK_LIMIT = 30;
    private static final int TEXT_COUNT = 20;
    private static final int WHOLE_COUNT = 12;
    private static final int BUILDER_COUNT = 6;
    private static final int SORT_COUNT = 56;

    private static final int GREATEST_UNIT = 65535;
    private static final int GREATEST_POINT = 1114111;
    private static final int TAB = 9;
    private static final int LINE_FEED = 10;
    private static final int CARRIAGE_RETURN = 13;
    private static final long LEAST_WHOLE = -9223372036854775808L;
    private static final long LEAST_SMALL = -2147483648L;

    /** A text is known by its number among the texts of a run. */
    private static final int NO_TEXT = -1;
    private static final int EMPTY = 0;

    /** What a STEP answers: it was done, or the KIND by which it is refused. */
    private static final int FINE = 0;
    private static final int INDEX = 1;
    private static final int FORM = 2;
    private static final int ARGUMENT = 3;
    private static final int MISSING = 4;
    private static final int ROOM = 5;

    /** What ended() tells, by its number. */
    private static final int ENDING_STEP = 0;
    private static final int ENDING_KIND = 1;
    private static final int DONE_COUNT = 2;
    private static final int REFUSED_COUNT = 3;

    /** The kinds of words; NUMBER stands for an N, too. */
    private static final char TEXT_NAME = 'v';
    private static final char BUILDER_NAME = 'b';
    private static final char WHOLE_NAME = 'w';
    private static final char NUMBER = '0';
    private static final char LITERAL = '"';

    /** The signs ahead of a W in an X. */
    private static final char PLAIN = ' ';
    private static final char AS_POINT = '@';
    private static final char AS_TRUTH = '?';

    /** The groups of sorts, by who does them. */
    private static final int OF_TEXTS = 0;
    private static final int OF_WHOLES = 1;
    private static final int OF_BUILDERS = 2;
    private static final int OF_PARTS = 3;
    private static final int OF_COURSE = 4;

    private static final Sort[] SORTS = Sort.values();

    private final Row tape;
    private final Reader reader;
    private final Bench bench;
    private final Runner runner;
    private Program program;
    private Program spare;
    private boolean compiled;

    public TextLessons() {
        tape = new Row(TAPE_LIMIT);
        program = new Program();
        spare = new Program();
        compiled = false;
        reader = new Reader(tape, spare);
        bench = new Bench(program);
        runner = new Runner(bench);
    }

    public int feed(int a, int b, int c, int d, int e) {
        if (tape.size > TAPE_LIMIT - 20) {
            return NONE;
        }
        feedBytes(a);
        feedBytes(b);
        feedBytes(c);
        feedBytes(d);
        feedBytes(e);
        return tape.size;
    }

    private void feedBytes(int four) {
        for (int shift = 24; shift >= 0; shift -= 8) {
            tape.add((four >>> shift) & 255);
        }
    }

    public int cut(int n) {
        if (n < 0 || n > tape.size) {
            return NONE;
        }
        tape.shorten(tape.size - n);
        return tape.size;
    }

    public int compile() {
        int fault = reader.read(spare);
        if (fault == NONE) {
            fault = spare.judged();
        }
        tape.clear();
        if (fault != NONE) {
            return -1 - fault;
        }
        Program former = program;
        program = spare;
        spare = former;
        compiled = true;
        bench.texts.load(program);
        runner.begin(program);
        return program.count;
    }

    public int run() {
        if (!compiled) {
            return NO;
        }
        runner.perform(program);
        return 1 + runner.ended[ENDING_STEP];
    }

    public int ended(int what) {
        return what < ENDING_STEP || what > REFUSED_COUNT ? NONE : runner.ended[what];
    }

    public int done(int sort) {
        return sort < 0 || sort >= SORT_COUNT ? NONE : runner.tallies[sort];
    }

    public int step(int k, int what) {
        if (k < 0 || k >= program.count) {
            return NONE;
        }
        if (what == 0) {
            return program.sorts[k];
        }
        return what == 1 ? program.firsts[k + 1] - program.firsts[k] : NONE;
    }

    public int spelled(int k, int i) {
        return program.spelledByte(k, i);
    }

    public int shrink() {
        int kind = runner.ended[ENDING_KIND];
        if (!compiled || kind == FINE) {
            return NO;
        }
        boolean shorter = true;
        for (int round = 0; round <= STEP_LIMIT && shorter; round++) {
            shorter = false;
            for (int k = program.count - 1; k >= 0; k--) {
                spare.copySteps(program);
                spare.leaveOut(k);
                if (spare.judged() == NONE && runner.perform(spare) == kind) {
                    program.leaveOut(k);
                    shorter = true;
                }
            }
        }
        runner.perform(program);
        return program.count;
    }

    public int length(int v) {
        int text = bench.textOf(v);
        return text == NO_TEXT ? NONE : bench.texts.sizeOf(text);
    }

    public int unit(int v, int i) {
        return bench.texts.unitOf(bench.textOf(v), i);
    }

    public int hash(int v) {
        int text = bench.textOf(v);
        return text == NO_TEXT ? 0 : bench.texts.hashOf(text);
    }

    public int same(int v, int u) {
        if (v < 0 || v >= TEXT_COUNT || u < 0 || u >= TEXT_COUNT) {
            return NONE;
        }
        int text = bench.textOf(v);
        return text != NO_TEXT && text == bench.textOf(u) ? 1 : 0;
    }

    public int pooled(int v) {
        int text = bench.textOf(v);
        if (text == NO_TEXT) {
            return NONE;
        }
        return bench.texts.pool.placeOf(text) == NONE ? 0 : 1;
    }

    public int pool() {
        return bench.texts.pool.size;
    }

    public long whole(int w) {
        return w < 0 || w >= WHOLE_COUNT ? 0 : bench.wholes[w];
    }

    public int builder(int b, int what) {
        if (!bench.hasBuilder(b)) {
            return NONE;
        }
        if (what == 0) {
            return bench.builders[b].size;
        }
        return what == 1 ? bench.rooms[b] : NONE;
    }

    public int builderUnit(int b, int i) {
        return bench.hasBuilder(b) ? bench.builders[b].at(i) : NONE;
    }

    public int parts() {
        return bench.parts.size;
    }

    public int partUnit(int k, int i) {
        return bench.texts.unitOf(bench.parts.at(k), i);
    }

    public int partOf(int k) {
        int part = bench.parts.at(k);
        if (part == NO_TEXT) {
            return NONE;
        }
        for (int v = 0; v < TEXT_COUNT; v++) {
            if (bench.textOf(v) == part) {
                return v;
            }
        }
        return NONE;
    }

    public int marks() {
        return bench.markCount;
    }

    public long mark(int k) {
        return k < 0 || k >= bench.markCount ? 0 : bench.marks[k];
    }

    /**
     * The sorts of STEPS, in the document's order. The letters of their words: v, w and B are
     * given, b is used; T is refused if it is MISSING, t may be so; W, X and N are as told.
     */
    private enum Sort {
        SET("set", "vt", 2, OF_TEXTS),
        NULL("null", "v", 1, OF_TEXTS),
        COPY("copy", "vT", 2, OF_TEXTS),
        INTERN("intern", "vT", 2, OF_TEXTS),
        JOIN("join", "vXXXXXXXX", 2, OF_TEXTS),
        SAME("same", "wtt", 3, OF_WHOLES),
        EQUAL("equal", "wTt", 3, OF_WHOLES),
        ALIKE("alike", "wTt", 3, OF_WHOLES),
        ORDER("order", "wTT", 3, OF_WHOLES),
        HASH("hash", "wT", 2, OF_WHOLES),
        LENGTH("length", "wT", 2, OF_WHOLES),
        UNIT("unit", "wTW", 3, OF_WHOLES),
        POINT("point", "wTW", 3, OF_WHOLES),
        BEFORE("before", "wTW", 3, OF_WHOLES),
        POINTS("points", "wTWW", 4, OF_WHOLES),
        OFFSET("offset", "wTWW", 4, OF_WHOLES),
        PART("part", "vTWW", 4, OF_TEXTS),
        TRIM("trim", "vT", 2, OF_TEXTS),
        STRIP("strip", "vT", 2, OF_TEXTS),
        REPEAT("repeat", "vTW", 3, OF_TEXTS),
        CHANGE("change", "vTWW", 4, OF_TEXTS),
        REPLACE("replace", "vTTT", 4, OF_TEXTS),
        FIND("find", "wTTW", 4, OF_WHOLES),
        LAST("last", "wTTW", 4, OF_WHOLES),
        SEEK("seek", "wTWW", 4, OF_WHOLES),
        BEGINS("begins", "wTTW", 4, OF_WHOLES),
        ENDS("ends", "wTT", 3, OF_WHOLES),
        SPLIT("split", "TWW", 3, OF_PARTS),
        LINES("lines", "T", 1, OF_PARTS),
        PIECE("piece", "vW", 2, OF_PARTS),
        PIECES("pieces", "w", 1, OF_WHOLES),
        WEAVE("weave", "vT", 2, OF_PARTS),
        UPPER("upper", "vT", 2, OF_TEXTS),
        LOWER("lower", "vT", 2, OF_TEXTS),
        FRESH("fresh", "BW", 2, OF_BUILDERS),
        OPEN("open", "BT", 2, OF_BUILDERS),
        ADD("add", "bX", 2, OF_BUILDERS),
        INSERT("insert", "bWX", 3, OF_BUILDERS),
        DELETE("delete", "bWW", 3, OF_BUILDERS),
        PUT("put", "bWW", 3, OF_BUILDERS),
        TURN("turn", "b", 1, OF_BUILDERS),
        SIZE("size", "bW", 2, OF_BUILDERS),
        TEXT("text", "vb", 2, OF_TEXTS),
        ROOM_OF("room", "wb", 2, OF_WHOLES),
        FIRST("first", "wbb", 3, OF_WHOLES),
        FROM("from", "vWWWWWWWW", 2, OF_TEXTS),
        NUMBER_TEXT("number", "vWW", 3, OF_TEXTS),
        PARSE("parse", "wtW", 3, OF_WHOLES),
        SMALL("small", "wtW", 3, OF_WHOLES),
        TRUTH("truth", "wt", 2, OF_WHOLES),
        PLUS("plus", "wWW", 3, OF_WHOLES),
        MINUS("minus", "wWW", 3, OF_WHOLES),
        TIMES("times", "wWW", 3, OF_WHOLES),
        IF("if", "WN", 2, OF_COURSE),
        CATCH("catch", "wN", 2, OF_COURSE),
        MARK("mark", "W", 1, OF_COURSE);

        final String spelling;
        final String words;
        final int least;
        final int group;

        Sort(String spelling, String words, int least, int group) {
            this.spelling = spelling;
            this.words = words;
            this.least = least;
            this.group = group;
        }

        /** The letter of word i behind the NAME; a blank if there is none such. */
        char letter(int i) {
            return i < 0 || i >= words.length() ? ' ' : words.charAt(i);
        }

        boolean opensRange() {
            return this == IF || this == CATCH;
        }

        boolean gives() {
            char first = letter(0);
            return first == 'v' || first == 'w' || first == 'B';
        }
    }

    /**
     * A row of numbers, from 0 up, that grows to its limit; what would go beyond that does not
     * come, and over tells of it. It grows as needed, so that an object that is hardly used is
     * small.
     */
    private static final class Row {
        final int limit;
        int[] cells;
        int size;
        boolean over;

        Row(int limit) {
            this.limit = limit;
            cells = new int[16];
            size = 0;
            over = false;
        }

        void clear() {
            size = 0;
            over = false;
        }

        void shorten(int n) {
            if (n >= 0 && n < size) {
                size = n;
            }
        }

        int at(int i) {
            return i < 0 || i >= size ? NONE : cells[i];
        }

        void change(int i, int n) {
            if (i >= 0 && i < size) {
                cells[i] = n;
            }
        }

        void add(int n) {
            if (size >= limit) {
                over = true;
                return;
            }
            if (size >= cells.length) {
                cells = Arrays.copyOf(cells, 2 * size);
            }
            cells[size] = n;
            size++;
        }

        void addChars(String chars) {
            for (int i = 0; i < chars.length(); i++) {
                add(chars.charAt(i));
            }
        }

        /** Adds the number's digits in a base; 10 if that is not 2 .. 36. */
        void addWhole(long number, long base) {
            long radix = base < 2 || base > 36 ? 10 : base;
            int start = size;
            // Below 0 there is one whole more than above it.
            long rest = number > 0 ? -number : number;
            for (int i = 0; i < 64; i++) {
                int digit = (int) -(rest % radix);
                add(digit < 10 ? '0' + digit : 'a' + digit - 10);
                rest /= radix;
                if (rest == 0) {
                    break;
                }
            }
            if (number < 0) {
                add('-');
            }
            turnFrom(start);
        }

        private void turnFrom(int start) {
            for (int low = start, high = size - 1; low < high; low++, high--) {
                int cell = cells[low];
                cells[low] = cells[high];
                cells[high] = cell;
            }
        }

        void addPoint(int point) {
            if (point <= GREATEST_UNIT) {
                add(point);
            } else {
                add(Letters.highOf(point));
                add(Letters.lowOf(point));
            }
        }

        /** Puts a stretch of another row at a place of this one. */
        void insert(int place, Row from, int start, int end) {
            int n = end - start;
            if (place < 0 || place > size || start < 0 || n < 0 || end > from.size) {
                return;
            }
            if (n > limit - size) {
                over = true;
                return;
            }
            if (size + n > cells.length) {
                cells = Arrays.copyOf(cells, Math.max(size + n, 2 * cells.length));
            }
            System.arraycopy(cells, place, cells, place + n, size - place);
            System.arraycopy(from.cells, start, cells, place, n);
            size += n;
        }

        void remove(int start, int end) {
            if (start < 0 || start > end || end > size) {
                return;
            }
            System.arraycopy(cells, end, cells, start, size - end);
            size -= end - start;
        }

        int placeOf(int n) {
            for (int i = 0; i < size; i++) {
                if (cells[i] == n) {
                    return i;
                }
            }
            return NONE;
        }

        /** Whether a stretch of a row, this one or another, stands at a place of this one. */
        boolean holds(int place, Row other, int start, int end) {
            int n = end - start;
            if (place < 0 || n > size - place || start < 0 || end > other.size) {
                return false;
            }
            for (int i = 0; i < n; i++) {
                if (cells[place + i] != other.cells[start + i]) {
                    return false;
                }
            }
            return true;
        }

        /** The ORDER of a stretch of this row and one of a row, this one or another. */
        int orderTo(int start, int end, Row other, int otherStart, int otherEnd) {
            int n = Math.min(end - start, otherEnd - otherStart);
            for (int i = 0; i < n; i++) {
                int difference = at(start + i) - other.at(otherStart + i);
                if (difference != 0) {
                    return difference;
                }
            }
            return (end - start) - (otherEnd - otherStart);
        }

        /** Whether a PAIR begins at a place of a stretch that ends before end. */
        boolean hasPair(int place, int end) {
            return place >= 0 && place < end - 1 && end <= size
                && Letters.isHigh(cells[place]) && Letters.isLow(cells[place + 1]);
        }

        int pairAt(int place) {
            return 65536 + 1024 * (at(place) - 55296) + (at(place + 1) - 56320);
        }
    }

    /** What the document says of single units and digits. */
    private static final class Letters {
        static boolean isHigh(int unit) {
            return unit >= 55296 && unit <= 56319;
        }

        static boolean isLow(int unit) {
            return unit >= 56320 && unit <= 57343;
        }

        static int highOf(int point) {
            return 55296 + (point - 65536) / 1024;
        }

        static int lowOf(int point) {
            return 56320 + (point - 65536) % 1024;
        }

        static boolean isUnit(long n) {
            return n >= 0 && n <= GREATEST_UNIT;
        }

        static boolean isPoint(long n) {
            return n >= 0 && n <= GREATEST_POINT;
        }

        static boolean isBlank(int u) {
            return u >= 9 && u <= 13 || u >= 28 && u <= 32 || u == 5760
                || u >= 8192 && u <= 8202 && u != 8199
                || u == 8232 || u == 8233 || u == 8287 || u == 12288;
        }

        /** LOWER of a unit, or the first unit of it. */
        static int lower(int u) {
            if (u >= 65 && u <= 90 || u >= 192 && u <= 222 && u != 215) {
                return u + 32;
            }
            if (isEvenCapital(u) || isOddCapital(u)) {
                return u + 1;
            }
            if (u == 376) {
                return 255;
            }
            return u == 304 ? 105 : u;
        }

        /** The second unit of LOWER, or NONE. */
        static int lowerTail(int u) {
            return u == 304 ? 775 : NONE;
        }

        /** UPPER of a unit, or the first unit of it. */
        static int upper(int u) {
            if (u >= 97 && u <= 122 || u >= 224 && u <= 254 && u != 247) {
                return u - 32;
            }
            if (isEvenCapital(u - 1) || isOddCapital(u - 1)) {
                return u - 1;
            }
            switch (u) {
                case 255:
                    return 376;
                case 181:
                    return 924;
                case 305:
                    return 73;
                case 383:
                case 223:
                    return 83;
                case 329:
                    return 700;
                default:
                    return u;
            }
        }

        /** The second unit of UPPER, or NONE. */
        static int upperTail(int u) {
            if (u == 223) {
                return 83;
            }
            return u == 329 ? 78 : NONE;
        }

        private static boolean isEvenCapital(int u) {
            return u % 2 == 0
                && (u >= 256 && u <= 302 || u >= 306 && u <= 310 || u >= 330 && u <= 374);
        }

        private static boolean isOddCapital(int u) {
            return u % 2 == 1 && (u >= 313 && u <= 327 || u >= 377 && u <= 381);
        }

        static boolean areAlike(int a, int b) {
            if (a == b) {
                return true;
            }
            int upperA = upperTail(a) == NONE ? upper(a) : a;
            int upperB = upperTail(b) == NONE ? upper(b) : b;
            return upperA == upperB || lower(upperA) == lower(upperB);
        }

        /** What a digit of a base counts, or NONE. */
        static int digit(int unit, int base) {
            int worth = NONE;
            if (unit >= '0' && unit <= '9') {
                worth = unit - '0';
            } else if (unit >= 'a' && unit <= 'z') {
                worth = 10 + unit - 'a';
            } else if (unit >= 'A' && unit <= 'Z') {
                worth = 10 + unit - 'A';
            }
            return worth < base ? worth : NONE;
        }

        /**
         * The whole that digits tell, times -1, as below 0 there is one more of them. 1 if they
         * are none, or it is not within 64 bits.
         */
        static long minusTold(Row row, int start, int end, int base) {
            if (start >= end || base < 2 || base > 36) {
                return 1;
            }
            long told = 0;
            for (int i = start; i < end; i++) {
                int worth = digit(row.at(i), base);
                if (worth == NONE || told < (LEAST_WHOLE + worth) / base) {
                    return 1;
                }
                told = told * base - worth;
            }
            return told;
        }
    }

    /**
     * A program: its STEPS, of each a sort and its words, from firsts[k] up to firsts[k + 1], and
     * its LITERALS. The value of a word is the number of the v, b, w or LITERAL, or the NUMBER.
     */
    private static final class Program {
        final int[] sorts = new int[STEP_LIMIT];
        final int[] firsts = new int[STEP_LIMIT + 1];
        final int[] kinds = new int[WORD_LIMIT];
        final int[] signs = new int[WORD_LIMIT];
        final long[] values = new long[WORD_LIMIT];
        final int[] places = new int[WORD_LIMIT];
        final Row literalUnits = new Row(TAPE_LIMIT);
        final Row literalEnds = new Row(LITERAL_LIMIT);
        int count = 0;

        /** The RANGES that are open while it is JUDGED, and what is GIVEN behind each of them. */
        private final int[] rangeEnds = new int[STEP_LIMIT];
        private final long[] givenBehind = new long[STEP_LIMIT];
        private int ranges = 0;
        private long given = 0;

        /** How many bytes come before the one that is sought, and that one. */
        private int ahead = 0;
        private int heard = NONE;
        private final Row digits = new Row(20);

        void clear() {
            count = 0;
            firsts[0] = 0;
            literalUnits.clear();
            literalEnds.clear();
        }

        Sort sortOf(int k) {
            return SORTS[sorts[k]];
        }

        void addStep(int sort) {
            if (count < STEP_LIMIT) {
                sorts[count] = sort;
                firsts[count + 1] = firsts[count];
                count++;
            }
        }

        /** Adds a word to the last STEP. */
        void addWord(int kind, int sign, long value, int place) {
            int w = firsts[count];
            if (count > 0 && w < WORD_LIMIT) {
                kinds[w] = kind;
                signs[w] = sign;
                values[w] = value;
                places[w] = place;
                firsts[count] = w + 1;
            }
        }

        int literalStart(int l) {
            return l <= 0 ? 0 : literalEnds.at(l - 1);
        }

        /** The number of the LITERAL with these units, which may be new; NONE: it is a 25th one. */
        int literalWith(Row units) {
            for (int l = 0; l < literalEnds.size; l++) {
                int start = literalStart(l);
                int end = literalEnds.at(l);
                if (end - start == units.size && units.holds(0, literalUnits, start, end)) {
                    return l;
                }
            }
            if (literalEnds.size >= LITERAL_LIMIT) {
                return NONE;
            }
            literalUnits.insert(literalUnits.size, units, 0, units.size);
            literalEnds.add(literalUnits.size);
            return literalEnds.size - 1;
        }

        /** Takes another program's STEPS, but not its LITERALS, which the texts of a run have. */
        void copySteps(Program other) {
            int words = other.firsts[other.count];
            count = other.count;
            System.arraycopy(other.sorts, 0, sorts, 0, count);
            System.arraycopy(other.firsts, 0, firsts, 0, count + 1);
            System.arraycopy(other.kinds, 0, kinds, 0, words);
            System.arraycopy(other.signs, 0, signs, 0, words);
            System.arraycopy(other.values, 0, values, 0, words);
            System.arraycopy(other.places, 0, places, 0, words);
        }

        /** Leaves out STEP k: RANGES in which it stands have one less, those of its own stay. */
        void leaveOut(int k) {
            if (k < 0 || k >= count) {
                return;
            }
            for (int j = 0; j < k; j++) {
                if (sortOf(j).opensRange() && rangeEnd(j) > k) {
                    values[firsts[j] + 1]--;
                }
            }
            int first = firsts[k];
            int next = firsts[k + 1];
            int rest = firsts[count] - next;
            System.arraycopy(kinds, next, kinds, first, rest);
            System.arraycopy(signs, next, signs, first, rest);
            System.arraycopy(values, next, values, first, rest);
            System.arraycopy(places, next, places, first, rest);
            for (int j = k + 1; j < count; j++) {
                sorts[j - 1] = sorts[j];
                firsts[j] = firsts[j + 1] - (next - first);
            }
            count--;
        }

        /** The first STEP behind the RANGE of an if or a catch. */
        int rangeEnd(int k) {
            return k + 1 + (int) values[firsts[k] + 1];
        }

        /** JUDGES the program: the place of the FAULT, or NONE. */
        int judged() {
            ranges = 0;
            given = 0;
            for (int k = 0; k < count; k++) {
                for (int depth = ranges; depth > 0 && rangeEnds[depth - 1] <= k; depth--) {
                    ranges = depth - 1;
                    given = givenBehind[ranges];
                }
                for (int w = firsts[k]; w < firsts[k + 1]; w++) {
                    if (isFault(k, w)) {
                        return places[w];
                    }
                }
                passStep(k);
            }
            return NONE;
        }

        private boolean isFault(int k, int w) {
            char letter = sortOf(k).letter(w - firsts[k]);
            if (letter == 'N') {
                return rangeEnd(k) > (ranges > 0 ? rangeEnds[ranges - 1] : count);
            }
            if (letter == 'v' || letter == 'w' || letter == 'B') {
                return false;
            }
            long used = givenBit(w);
            return (given & used) != used;
        }

        /** What is GIVEN by a STEP, or behind its RANGE. */
        private void passStep(int k) {
            Sort sort = sortOf(k);
            long gift = sort.gives() ? givenBit(firsts[k]) : 0;
            if (!sort.opensRange()) {
                given |= gift;
            } else if (ranges < STEP_LIMIT) {
                rangeEnds[ranges] = rangeEnd(k);
                givenBehind[ranges] = given | gift;
                ranges++;
            }
        }

        /** The bit that stands for a v, w or b among what is GIVEN; 0 for other words. */
        private long givenBit(int w) {
            switch (kinds[w]) {
                case TEXT_NAME:
                    return 1L << values[w];
                case WHOLE_NAME:
                    return 1L << (TEXT_COUNT + values[w]);
                case BUILDER_NAME:
                    return 1L << (TEXT_COUNT + WHOLE_COUNT + values[w]);
                default:
                    return 0;
            }
        }

        /** Byte i of STEP k as it is spelled; NONE. */
        int spelledByte(int k, int i) {
            if (k < 0 || k >= count || i < 0) {
                return NONE;
            }
            ahead = i;
            heard = NONE;
            String name = sortOf(k).spelling;
            for (int j = 0; j < name.length(); j++) {
                say(name.charAt(j));
            }
            for (int w = firsts[k]; w < firsts[k + 1]; w++) {
                say(' ');
                sayWord(w);
            }
            return heard;
        }

        private void say(int b) {
            if (ahead == 0) {
                heard = b;
            }
            ahead--;
        }

        private void sayWord(int w) {
            if (kinds[w] == LITERAL) {
                sayLiteral((int) values[w]);
                return;
            }
            if (signs[w] != PLAIN) {
                say(signs[w]);
            }
            if (kinds[w] != NUMBER) {
                say(kinds[w]);
            }
            digits.clear();
            digits.addWhole(values[w], 10);
            for (int i = 0; i < digits.size; i++) {
                say(digits.at(i));
            }
        }

        private void sayLiteral(int l) {
            int end = literalEnds.at(l);
            say('"');
            for (int i = literalStart(l); i < end; i++) {
                sayUnit(literalUnits.at(i));
            }
            say('"');
        }

        private void sayUnit(int unit) {
            if (unit >= 32 && unit <= 126 && unit != '"' && unit != '\\') {
                say(unit);
                return;
            }
            say('\\');
            if (unit == '"' || unit == '\\') {
                say(unit);
            } else if (unit == LINE_FEED) {
                say('n');
            } else if (unit == TAB) {
                say('t');
            } else {
                say('u');
                for (int shift = 12; shift >= 0; shift -= 4) {
                    int digit = (unit >> shift) & 15;
                    say(digit < 10 ? '0' + digit : 'a' + digit - 10);
                }
            }
        }
    }

    /** Reads a program from the TAPE. */
    private static final class Reader {
        private final Row tape;
        private final Row units = new Row(UNIT_LIMIT);
        private Program program;
        private int at = 0;
        private int lineEnd = 0;

        Reader(Row tape, Program program) {
            this.tape = tape;
            this.program = program;
        }

        /** Reads the TAPE's STEPS into a program: the place of the FAULT, or NONE. */
        int read(Program into) {
            program = into;
            program.clear();
            for (int start = 0; start < tape.size; start = lineEnd + 1) {
                at = start;
                lineEnd = nextByte(LINE_FEED, start, tape.size);
                skipBlanks();
                if (at >= lineEnd) {
                    continue;
                }
                int nameEnd = nextByte(' ', at, lineEnd);
                int number = sortNamed(at, nameEnd);
                if (number == NONE || program.count >= STEP_LIMIT) {
                    return at;
                }
                program.addStep(number);
                at = nameEnd;
                int fault = readWords(SORTS[number]);
                if (fault != NONE) {
                    return fault;
                }
            }
            return NONE;
        }

        /** The place of the first such byte, or the end if there is none. */
        private int nextByte(int b, int start, int end) {
            int i = start;
            while (i < end && tape.at(i) != b) {
                i++;
            }
            return i;
        }

        private void skipBlanks() {
            while (at < lineEnd && tape.at(at) == ' ') {
                at++;
            }
        }

        private int sortNamed(int start, int end) {
            for (int number = 0; number < SORT_COUNT; number++) {
                String name = SORTS[number].spelling;
                int i = 0;
                while (i < name.length() && tape.at(start + i) == name.charAt(i)) {
                    i++;
                }
                if (i == name.length() && i == end - start) {
                    return number;
                }
            }
            return NONE;
        }

        /** Reads the words behind a NAME: the place of the FAULT, or NONE. */
        private int readWords(Sort sort) {
            int most = sort.words.length();
            for (int i = 0; i <= most; i++) {
                skipBlanks();
                if (at >= lineEnd) {
                    return i < sort.least ? lineEnd : NONE;
                }
                int place = at;
                if (i == most || !readWord(sort.letter(i))) {
                    return place;
                }
            }
            return NONE;
        }

        /** Reads a word of a sort, and goes behind it: whether it is so. */
        private boolean readWord(char letter) {
            int place = at;
            int first = tape.at(at);
            if (first == LITERAL) {
                return allows(letter, "TtX") && readLiteral();
            }
            int end = nextByte(' ', at, lineEnd);
            at = end;
            if (letter == 'N') {
                return readCount(place, end);
            }
            if (letter == 'X' && (first == AS_POINT || first == AS_TRUTH)) {
                return readWhole(first, place, place + 1, end);
            }
            switch (first) {
                case TEXT_NAME:
                    return allows(letter, "vTtX") && readName(PLAIN, place, place, end);
                case BUILDER_NAME:
                    return allows(letter, "bBX") && readName(PLAIN, place, place, end);
                case WHOLE_NAME:
                    return allows(letter, "wWX") && readName(PLAIN, place, place, end);
                default:
                    return allows(letter, "WX") && readNumber(PLAIN, place, place, end);
            }
        }

        private static boolean allows(char letter, String letters) {
            return letters.indexOf(letter) >= 0;
        }

        private boolean readWhole(int sign, int place, int start, int end) {
            if (start < end && tape.at(start) == WHOLE_NAME) {
                return readName(sign, place, start, end);
            }
            return readNumber(sign, place, start, end);
        }

        /** Reads v, b or w and its number, which has no 0 ahead. */
        private boolean readName(int sign, int place, int start, int end) {
            int kind = tape.at(start);
            int length = end - start - 1;
            if (length < 1 || length > 2 || length == 2 && tape.at(start + 1) == '0') {
                return false;
            }
            long minus = Letters.minusTold(tape, start + 1, end, 10);
            if (minus > 0 || -minus >= countOf(kind)) {
                return false;
            }
            program.addWord(kind, sign, -minus, place);
            return true;
        }

        private static int countOf(int kind) {
            if (kind == TEXT_NAME) {
                return TEXT_COUNT;
            }
            return kind == WHOLE_NAME ? WHOLE_COUNT : BUILDER_COUNT;
        }

        private boolean readNumber(int sign, int place, int start, int end) {
            boolean below = start < end && tape.at(start) == '-';
            long minus = Letters.minusTold(tape, below ? start + 1 : start, end, 10);
            if (minus > 0 || !below && minus == LEAST_WHOLE) {
                return false;
            }
            program.addWord(NUMBER, sign, below ? minus : -minus, place);
            return true;
        }

        private boolean readCount(int start, int end) {
            long minus = Letters.minusTold(tape, start, end, 10);
            if (minus > 0 || end - start > 2) {
                return false;
            }
            program.addWord(NUMBER, PLAIN, -minus, start);
            return true;
        }

        private boolean readLiteral() {
            int place = at;
            units.clear();
            for (at = place + 1; at < lineEnd && tape.at(at) != LITERAL; at++) {
                int unit = readSign();
                if (unit == NONE) {
                    return false;
                }
                units.add(unit);
            }
            boolean ends = at < lineEnd;
            at++;
            if (!ends || units.over || at < lineEnd && tape.at(at) != ' ') {
                return false;
            }
            int number = program.literalWith(units);
            if (number == NONE) {
                return false;
            }
            program.addWord(LITERAL, PLAIN, number, place);
            return true;
        }

        /** Reads one of a LITERAL's SIGNS up to its last byte: its unit, or NONE if it is not so. */
        private int readSign() {
            int b = tape.at(at);
            if (b != '\\') {
                return b >= 32 && b <= 126 ? b : NONE;
            }
            at++;
            int which = at < lineEnd ? tape.at(at) : NONE;
            switch (which) {
                case '"':
                case '\\':
                    return which;
                case 'n':
                    return LINE_FEED;
                case 't':
                    return TAB;
                case 'u':
                    return readCode();
                default:
                    return NONE;
            }
        }

        private int readCode() {
            int code = 0;
            for (int i = 0; i < 4; i++) {
                at++;
                int digit = at < lineEnd ? Letters.digit(tape.at(at), 16) : NONE;
                if (digit == NONE) {
                    return NONE;
                }
                code = 16 * code + digit;
            }
            return code;
        }
    }

    /** The texts of a run, one behind the other, and the POOL. */
    private static final class Texts {
        final Row units = new Row(TAPE_LIMIT + STEP_LIMIT * UNIT_LIMIT);
        final Row ends = new Row(1 + LITERAL_LIMIT + STEP_LIMIT * PART_LIMIT);
        final Row pool = new Row(1 + LITERAL_LIMIT + STEP_LIMIT);
        /** The text of each LITERAL, by its number. */
        final Row literals = new Row(LITERAL_LIMIT);
        /** EMPTY and the LITERALS come first, and stay from run to run. */
        private int lasting = 1;

        Texts() {
            ends.add(0);
            pool.add(EMPTY);
        }

        /** Takes a program's LITERALS. */
        void load(Program program) {
            units.clear();
            ends.clear();
            ends.add(0);
            literals.clear();
            for (int l = 0; l < program.literalEnds.size; l++) {
                int start = program.literalStart(l);
                int end = program.literalEnds.at(l);
                if (start == end) {
                    literals.add(EMPTY);
                } else {
                    literals.add(ends.size);
                    units.insert(units.size, program.literalUnits, start, end);
                    ends.add(units.size);
                }
            }
            lasting = ends.size;
        }

        /** Has just EMPTY and the LITERALS; of these, those that STEPS still have are pooled. */
        void begin(Program program) {
            ends.shorten(lasting);
            units.shorten(ends.at(lasting - 1));
            pool.clear();
            pool.add(EMPTY);
            for (int w = 0; w < program.firsts[program.count]; w++) {
                if (program.kinds[w] == LITERAL) {
                    int text = literals.at((int) program.values[w]);
                    if (pool.placeOf(text) == NONE) {
                        pool.add(text);
                    }
                }
            }
        }

        int startOf(int text) {
            return text <= 0 || text > ends.size ? 0 : ends.cells[text - 1];
        }

        int endOf(int text) {
            return text < 0 || text >= ends.size ? 0 : ends.cells[text];
        }

        int sizeOf(int text) {
            return endOf(text) - startOf(text);
        }

        int unitOf(int text, int i) {
            return i < 0 || i >= sizeOf(text) ? NONE : units.at(startOf(text) + i);
        }

        int hashOf(int text) {
            int hash = 0;
            int end = endOf(text);
            for (int i = startOf(text); i < end; i++) {
                hash = 31 * hash + units.at(i);
            }
            return hash;
        }

        boolean areEqual(int text, int other) {
            return sizeOf(text) == sizeOf(other)
                && units.holds(startOf(text), units, startOf(other), endOf(other));
        }

        boolean areAlike(int text, int other) {
            int size = sizeOf(text);
            if (size != sizeOf(other)) {
                return false;
            }
            for (int i = 0; i < size; i++) {
                if (!Letters.areAlike(unitOf(text, i), unitOf(other, i))) {
                    return false;
                }
            }
            return true;
        }

        /** Whether a text stands at a place of another. */
        boolean stands(int text, int place, int within) {
            return place >= 0 && place <= sizeOf(within) - sizeOf(text)
                && units.holds(startOf(within) + place, units, startOf(text), endOf(text));
        }

        /** A new object with a row's units; without any it is EMPTY, if it need not be its own. */
        int make(Row row, boolean own) {
            if (row.size == 0 && !own) {
                return EMPTY;
            }
            units.insert(units.size, row, 0, row.size);
            ends.add(units.size);
            return ends.size - 1;
        }

        /** The text of the POOL with a stretch's units; NO_TEXT. */
        int pooledWith(Row row, int start, int end) {
            for (int i = 0; i < pool.size; i++) {
                int text = pool.at(i);
                if (sizeOf(text) == end - start && units.holds(startOf(text), row, start, end)) {
                    return text;
                }
            }
            return NO_TEXT;
        }
    }

    /** What a run has and its STEPS change, and the words of the STEP that is done. */
    private static final class Bench {
        final Texts texts = new Texts();
        final int[] variables = new int[TEXT_COUNT];
        final long[] wholes = new long[WHOLE_COUNT];
        final Row[] builders = new Row[BUILDER_COUNT];
        final int[] rooms = new int[BUILDER_COUNT];
        final Row parts = new Row(PART_LIMIT);
        final long[] marks = new long[MARK_LIMIT];
        int markCount = 0;
        /** Where a STEP puts together the units of what it makes. */
        final Row scratch = new Row(UNIT_LIMIT);
        private Program program;
        private int first = 0;
        int wordCount = 0;

        Bench(Program program) {
            this.program = program;
            for (int b = 0; b < BUILDER_COUNT; b++) {
                builders[b] = new Row(UNIT_LIMIT);
            }
            Arrays.fill(variables, NO_TEXT);
            Arrays.fill(rooms, NONE);
        }

        void begin(Program begun) {
            program = begun;
            texts.begin(begun);
            Arrays.fill(variables, NO_TEXT);
            Arrays.fill(wholes, 0);
            Arrays.fill(rooms, NONE);
            parts.clear();
            markCount = 0;
        }

        /** Goes to STEP k, whose words are then asked for by their numbers from 0. */
        void goTo(int k) {
            first = program.firsts[k];
            wordCount = program.firsts[k + 1] - first;
        }

        int textOf(int v) {
            return v < 0 || v >= TEXT_COUNT ? NO_TEXT : variables[v];
        }

        boolean hasBuilder(int b) {
            return b >= 0 && b < BUILDER_COUNT && rooms[b] != NONE;
        }

        int signAt(int i) {
            return i < 0 || i >= wordCount ? PLAIN : program.signs[first + i];
        }

        int kindAt(int i) {
            return i < 0 || i >= wordCount ? NONE : program.kinds[first + i];
        }

        long valueAt(int i) {
            return i < 0 || i >= wordCount ? 0 : program.values[first + i];
        }

        int textAt(int i) {
            int number = (int) valueAt(i);
            return kindAt(i) == LITERAL ? texts.literals.at(number) : textOf(number);
        }

        long wholeAt(int i) {
            long value = valueAt(i);
            if (kindAt(i) == NUMBER) {
                return value;
            }
            return value < 0 || value >= WHOLE_COUNT ? 0 : wholes[(int) value];
        }

        /** A W as a place: within 0 .. most, and -1 or most + 1 for what is below or above. */
        int placeAt(int i, int most) {
            return (int) Math.max(-1, Math.min(wholeAt(i), most + 1L));
        }

        int builderAt(int i) {
            int b = (int) valueAt(i);
            return b < 0 || b >= BUILDER_COUNT ? 0 : b;
        }

        boolean lacksText(Sort sort) {
            for (int i = 0; i < wordCount; i++) {
                if (sort.letter(i) == 'T' && textAt(i) == NO_TEXT) {
                    return true;
                }
            }
            return false;
        }

        int giveText(int text) {
            int v = (int) valueAt(0);
            if (v >= 0 && v < TEXT_COUNT) {
                variables[v] = text;
            }
            return FINE;
        }

        int giveWhole(long whole) {
            setWhole((int) valueAt(0), whole);
            return FINE;
        }

        void setWhole(int w, long whole) {
            if (w >= 0 && w < WHOLE_COUNT) {
                wholes[w] = whole;
            }
        }

        int addMark() {
            if (markCount >= MARK_LIMIT) {
                return ROOM;
            }
            marks[markCount] = wholeAt(0);
            markCount++;
            return FINE;
        }

        void addText(int text) {
            scratch.insert(scratch.size, texts.units, texts.startOf(text), texts.endOf(text));
        }

        /** Adds an X's units to the scratch row: FINE, or the KIND by which it is refused. */
        int addX(int i) {
            int sign = signAt(i);
            if (sign == AS_POINT) {
                if (!Letters.isPoint(wholeAt(i))) {
                    return ARGUMENT;
                }
                scratch.addPoint((int) wholeAt(i));
            } else if (sign == AS_TRUTH) {
                scratch.addChars(wholeAt(i) == 0 ? "false" : "true");
            } else if (kindAt(i) == BUILDER_NAME) {
                Row from = builders[builderAt(i)];
                scratch.insert(scratch.size, from, 0, from.size);
            } else if (kindAt(i) == NUMBER || kindAt(i) == WHOLE_NAME) {
                scratch.addWhole(wholeAt(i), 10);
            } else if (textAt(i) == NO_TEXT) {
                scratch.addChars("null");
            } else {
                addText(textAt(i));
            }
            return FINE;
        }
    }

    /** Goes through a program's STEPS, and keeps count of them. */
    private static final class Runner {
        final int[] ended = new int[REFUSED_COUNT + 1];
        final int[] tallies = new int[SORT_COUNT];
        private final Bench bench;
        private final TextSteps textSteps;
        private final WholeSteps wholeSteps;
        private final BuilderSteps builderSteps;
        /** The catches in whose RANGES the run is: where these end, and their w. */
        private final Row catchEnds = new Row(STEP_LIMIT);
        private final Row catchWholes = new Row(STEP_LIMIT);

        Runner(Bench bench) {
            this.bench = bench;
            textSteps = new TextSteps(bench);
            wholeSteps = new WholeSteps(bench);
            builderSteps = new BuilderSteps(bench);
            ended[ENDING_STEP] = NONE;
        }

        void begin(Program program) {
            bench.begin(program);
            Arrays.fill(tallies, 0);
            Arrays.fill(ended, 0);
            ended[ENDING_STEP] = NONE;
            catchEnds.clear();
            catchWholes.clear();
        }

        /** Runs a program: the KIND of the refusal that ended it, or FINE. */
        int perform(Program program) {
            begin(program);
            int k = 0;
            for (int turn = 0; turn < STEP_LIMIT && k < program.count; turn++) {
                leaveCatches(k);
                bench.goTo(k);
                Sort sort = program.sortOf(k);
                int kind = FINE;
                if (bench.lacksText(sort)) {
                    kind = MISSING;
                } else if (sort.group == OF_TEXTS) {
                    kind = textSteps.give(sort);
                } else if (sort.group == OF_PARTS) {
                    kind = textSteps.giveParts(sort);
                } else if (sort.group == OF_WHOLES) {
                    kind = wholeSteps.give(sort);
                } else if (sort.group == OF_BUILDERS) {
                    kind = builderSteps.change(sort);
                } else if (sort == Sort.MARK) {
                    kind = bench.addMark();
                }
                if (kind == FINE) {
                    ended[DONE_COUNT]++;
                    tallies[program.sorts[k]]++;
                    k = nextBehind(program, k, sort);
                    continue;
                }
                ended[REFUSED_COUNT]++;
                if (catchEnds.size == 0) {
                    ended[ENDING_STEP] = k;
                    ended[ENDING_KIND] = kind;
                    return kind;
                }
                // The catch that stands last is the innermost one.
                k = catchEnds.at(catchEnds.size - 1);
                leaveCatch(kind);
            }
            leaveCatches(k);
            return FINE;
        }

        private int nextBehind(Program program, int k, Sort sort) {
            if (sort == Sort.CATCH) {
                catchEnds.add(program.rangeEnd(k));
                catchWholes.add((int) bench.valueAt(0));
            }
            boolean passes = sort == Sort.IF && bench.wholeAt(0) == 0;
            return passes ? program.rangeEnd(k) : k + 1;
        }

        /** Leaves the catches whose RANGES end here, the innermost first. */
        private void leaveCatches(int k) {
            for (int left = catchEnds.size; left > 0 && catchEnds.at(left - 1) <= k; left--) {
                leaveCatch(FINE);
            }
        }

        private void leaveCatch(int kind) {
            int last = catchEnds.size - 1;
            bench.setWhole(catchWholes.at(last), kind);
            catchEnds.shorten(last);
            catchWholes.shorten(last);
        }
    }

    /** The STEPS that give a v, or PARTS. */
    private static final class TextSteps {
        private final Bench bench;
        private final Texts texts;
        private final Row scratch;
        private final Row parts;
        /** Where the PARTS begin and end that a text is cut into. */
        private final Row cutStarts = new Row(UNIT_LIMIT + 1);
        private final Row cutEnds = new Row(UNIT_LIMIT + 1);

        TextSteps(Bench bench) {
            this.bench = bench;
            texts = bench.texts;
            scratch = bench.scratch;
            parts = bench.parts;
        }

        int give(Sort sort) {
            int text = bench.textAt(1);
            scratch.clear();
            switch (sort) {
                case SET:
                    return bench.giveText(text);
                case NULL:
                    return bench.giveText(NO_TEXT);
                case COPY:
                    bench.addText(text);
                    return bench.giveText(texts.make(scratch, true));
                case INTERN:
                    return intern(text);
                case JOIN:
                    return join();
                case PART:
                    return part(text);
                case TRIM:
                    return trim(text, false);
                case STRIP:
                    return trim(text, true);
                case REPEAT:
                    return repeat(text);
                case CHANGE:
                    return change(text);
                case REPLACE:
                    return replace(text);
                case UPPER:
                    return changeCase(text, true);
                case LOWER:
                    return changeCase(text, false);
                case TEXT:
                    Row builder = bench.builders[bench.builderAt(1)];
                    scratch.insert(0, builder, 0, builder.size);
                    return become(NO_TEXT, true);
                case FROM:
                    return from();
                case NUMBER_TEXT:
                    scratch.addWhole(bench.wholeAt(1), bench.wholeAt(2));
                    return become(NO_TEXT, true);
                default:
                    return FINE;
            }
        }

        int giveParts(Sort sort) {
            scratch.clear();
            switch (sort) {
                case SPLIT:
                    return split(bench.textAt(0));
                case LINES:
                    return lines(bench.textAt(0));
                case PIECE:
                    return piece();
                case WEAVE:
                    return weave(bench.textAt(1));
                default:
                    return FINE;
            }
        }

        /** Gives what stands in the scratch row, or the text itself if that did not change it. */
        private int become(int text, boolean changed) {
            if (!changed) {
                return bench.giveText(text);
            }
            return scratch.over ? ROOM : bench.giveText(texts.make(scratch, false));
        }

        private int intern(int text) {
            int pooled = texts.pooledWith(texts.units, texts.startOf(text), texts.endOf(text));
            if (pooled == NO_TEXT) {
                texts.pool.add(text);
                pooled = text;
            }
            return bench.giveText(pooled);
        }

        private int join() {
            boolean constant = true;
            for (int i = 1; i < bench.wordCount; i++) {
                int kind = bench.addX(i);
                if (kind != FINE) {
                    return kind;
                }
                constant = constant && (bench.kindAt(i) == LITERAL || bench.kindAt(i) == NUMBER);
            }
            if (scratch.over) {
                return ROOM;
            }
            int pooled = constant ? texts.pooledWith(scratch, 0, scratch.size) : NO_TEXT;
            if (pooled != NO_TEXT) {
                return bench.giveText(pooled);
            }
            int text = texts.make(scratch, true);
            if (constant) {
                texts.pool.add(text);
            }
            return bench.giveText(text);
        }

        private int part(int text) {
            int size = texts.sizeOf(text);
            int start = bench.placeAt(2, size);
            int end = bench.placeAt(3, size);
            if (start < 0 || start > end || end > size) {
                return INDEX;
            }
            addStretch(text, start, end);
            return become(text, end - start < size);
        }

        private void addStretch(int text, int start, int end) {
            int first = texts.startOf(text);
            scratch.insert(scratch.size, texts.units, first + start, first + end);
        }

        /** Leaves out BLANKS, or units up to 32, at both ends. */
        private int trim(int text, boolean blanks) {
            Row units = texts.units;
            int start = texts.startOf(text);
            int end = texts.endOf(text);
            while (start < end && isLeftOut(units.at(start), blanks)) {
                start++;
            }
            while (start < end && isLeftOut(units.at(end - 1), blanks)) {
                end--;
            }
            scratch.insert(0, units, start, end);
            return become(text, end - start < texts.sizeOf(text));
        }

        private static boolean isLeftOut(int unit, boolean blanks) {
            return blanks ? Letters.isBlank(unit) : unit <= ' ';
        }

        private int repeat(int text) {
            long times = bench.wholeAt(2);
            if (times < 0) {
                return ARGUMENT;
            }
            // Beyond the limit, and without units, more times make no difference.
            for (int i = 0; i < times && i < UNIT_LIMIT && !scratch.over; i++) {
                bench.addText(text);
            }
            if (times > UNIT_LIMIT && texts.sizeOf(text) > 0) {
                return ROOM;
            }
            return become(text, times != 1);
        }

        private int change(int text) {
            long former = bench.wholeAt(2);
            long latter = bench.wholeAt(3);
            if (!Letters.isUnit(former) || !Letters.isUnit(latter)) {
                return ARGUMENT;
            }
            boolean changed = false;
            int end = texts.endOf(text);
            for (int i = texts.startOf(text); i < end; i++) {
                int unit = texts.units.at(i);
                scratch.add(unit == former ? (int) latter : unit);
                changed = changed || unit == former && former != latter;
            }
            return become(text, changed);
        }

        private int replace(int text) {
            int sought = bench.textAt(2);
            int other = bench.textAt(3);
            int width = texts.sizeOf(sought);
            int size = texts.sizeOf(text);
            boolean found = false;
            int kept = 0;
            for (int i = 0; i <= size && !scratch.over; i++) {
                if (i >= kept && texts.stands(sought, i, text)) {
                    bench.addText(other);
                    found = true;
                    kept = i + width;
                }
                if (i >= kept && i < size) {
                    scratch.add(texts.unitOf(text, i));
                }
            }
            return become(text, found);
        }

        private int changeCase(int text, boolean up) {
            boolean changed = false;
            int end = texts.endOf(text);
            for (int i = texts.startOf(text); i < end; i++) {
                int unit = texts.units.at(i);
                int head = up ? Letters.upper(unit) : Letters.lower(unit);
                int tail = up ? Letters.upperTail(unit) : Letters.lowerTail(unit);
                scratch.add(head);
                if (tail != NONE) {
                    scratch.add(tail);
                }
                changed = changed || head != unit;
            }
            return become(text, changed);
        }

        private int from() {
            for (int i = 1; i < bench.wordCount; i++) {
                long point = bench.wholeAt(i);
                if (!Letters.isPoint(point)) {
                    return ARGUMENT;
                }
                scratch.addPoint((int) point);
            }
            return become(NO_TEXT, true);
        }

        private int split(int text) {
            long unit = bench.wholeAt(1);
            long most = bench.wholeAt(2);
            if (!Letters.isUnit(unit)) {
                return ARGUMENT;
            }
            cutStarts.clear();
            cutEnds.clear();
            int start = 0;
            int size = texts.sizeOf(text);
            for (int i = 0; i < size; i++) {
                boolean more = most <= 0 || cutStarts.size < most - 1;
                if (more && texts.unitOf(text, i) == unit) {
                    addCut(start, i);
                    start = i + 1;
                }
            }
            boolean stands = cutStarts.size > 0;
            addCut(start, size);
            if (most == 0 && stands) {
                dropEmptyCuts();
            }
            return takeParts(text);
        }

        private void addCut(int start, int end) {
            cutStarts.add(start);
            cutEnds.add(end);
        }

        private void dropEmptyCuts() {
            int left = cutStarts.size;
            while (left > 0 && cutStarts.at(left - 1) == cutEnds.at(left - 1)) {
                left--;
            }
            cutStarts.shorten(left);
            cutEnds.shorten(left);
        }

        private int lines(int text) {
            cutStarts.clear();
            cutEnds.clear();
            int start = 0;
            int size = texts.sizeOf(text);
            for (int i = 0; i < size; i++) {
                int unit = texts.unitOf(text, i);
                if (unit == LINE_FEED || unit == CARRIAGE_RETURN) {
                    addCut(start, i);
                    if (unit == CARRIAGE_RETURN && texts.unitOf(text, i + 1) == LINE_FEED) {
                        i++;
                    }
                    start = i + 1;
                }
            }
            if (start < size) {
                addCut(start, size);
            }
            return takeParts(text);
        }

        private int takeParts(int text) {
            if (cutStarts.size > PART_LIMIT) {
                return ROOM;
            }
            parts.clear();
            int size = texts.sizeOf(text);
            for (int k = 0; k < cutStarts.size; k++) {
                int start = cutStarts.at(k);
                int end = cutEnds.at(k);
                scratch.clear();
                addStretch(text, start, end);
                parts.add(end - start == size ? text : texts.make(scratch, false));
            }
            return FINE;
        }

        private int piece() {
            int k = bench.placeAt(1, parts.size);
            return k < 0 || k >= parts.size ? INDEX : bench.giveText(parts.at(k));
        }

        private int weave(int text) {
            for (int k = 0; k < parts.size; k++) {
                if (k > 0) {
                    bench.addText(text);
                }
                bench.addText(parts.at(k));
            }
            return become(NO_TEXT, true);
        }
    }

    /** The STEPS that give a w. */
    private static final class WholeSteps {
        private final Bench bench;
        private final Texts texts;

        WholeSteps(Bench bench) {
            this.bench = bench;
            texts = bench.texts;
        }

        int give(Sort sort) {
            switch (sort) {
                case PIECES:
                    return bench.giveWhole(bench.parts.size);
                case ROOM_OF:
                    return bench.giveWhole(bench.rooms[bench.builderAt(1)]);
                case FIRST:
                    return giveFirst();
                case PARSE:
                    return parse(LEAST_WHOLE);
                case SMALL:
                    return parse(LEAST_SMALL);
                case TRUTH:
                    return truth();
                case PLUS:
                    return bench.giveWhole(bench.wholeAt(1) + bench.wholeAt(2));
                case MINUS:
                    return bench.giveWhole(bench.wholeAt(1) - bench.wholeAt(2));
                case TIMES:
                    return bench.giveWhole(bench.wholeAt(1) * bench.wholeAt(2));
                case HASH:
                    return bench.giveWhole(texts.hashOf(bench.textAt(1)));
                case LENGTH:
                    return bench.giveWhole(texts.sizeOf(bench.textAt(1)));
                case UNIT:
                    return giveUnit(bench.textAt(1));
                case POINT:
                    return givePoint(bench.textAt(1));
                case BEFORE:
                    return givePointBefore(bench.textAt(1));
                case POINTS:
                    return countPoints(bench.textAt(1));
                case OFFSET:
                    return offset(bench.textAt(1));
                case SEEK:
                    return seek(bench.textAt(1));
                default:
                    return giveOfTwo(sort, bench.textAt(1), bench.textAt(2));
            }
        }

        private int giveOfTwo(Sort sort, int text, int other) {
            switch (sort) {
                case SAME:
                    return giveTruth(text == other);
                case EQUAL:
                    return giveTruth(other != NO_TEXT && texts.areEqual(text, other));
                case ALIKE:
                    return giveTruth(other != NO_TEXT && texts.areAlike(text, other));
                case ORDER:
                    return bench.giveWhole(texts.units.orderTo(texts.startOf(text),
                        texts.endOf(text), texts.units, texts.startOf(other), texts.endOf(other)));
                case FIND:
                    return find(text, other);
                case LAST:
                    return findLast(text, other);
                case BEGINS:
                    return giveTruth(texts.stands(other, bench.placeAt(3, texts.sizeOf(text)), text));
                case ENDS:
                    return giveTruth(
                        texts.stands(other, texts.sizeOf(text) - texts.sizeOf(other), text));
                default:
                    return FINE;
            }
        }

        private int giveTruth(boolean truth) {
            return bench.giveWhole(truth ? 1 : 0);
        }

        private int giveFirst() {
            Row builder = bench.builders[bench.builderAt(1)];
            Row other = bench.builders[bench.builderAt(2)];
            return bench.giveWhole(builder.orderTo(0, builder.size, other, 0, other.size));
        }

        /** Gives the whole that a text tells, from the least one up to the greatest beside it. */
        private int parse(long least) {
            int text = bench.textAt(1);
            long base = bench.wholeAt(2);
            if (text == NO_TEXT || base < 2 || base > 36) {
                return FORM;
            }
            int start = texts.startOf(text);
            int first = texts.unitOf(text, 0);
            if (first == '+' || first == '-') {
                start++;
            }
            long minus = Letters.minusTold(texts.units, start, texts.endOf(text), (int) base);
            if (minus > 0 || minus < least || first != '-' && minus == least) {
                return FORM;
            }
            return bench.giveWhole(first == '-' ? minus : -minus);
        }

        private int truth() {
            int text = bench.textAt(1);
            String word = "true";
            boolean alike = text != NO_TEXT && texts.sizeOf(text) == word.length();
            for (int i = 0; alike && i < word.length(); i++) {
                alike = Letters.areAlike(texts.unitOf(text, i), word.charAt(i));
            }
            return giveTruth(alike);
        }

        private int giveUnit(int text) {
            int size = texts.sizeOf(text);
            int place = bench.placeAt(2, size);
            return place < 0 || place >= size ? INDEX : bench.giveWhole(texts.unitOf(text, place));
        }

        private int givePoint(int text) {
            int size = texts.sizeOf(text);
            int place = bench.placeAt(2, size);
            if (place < 0 || place >= size) {
                return INDEX;
            }
            int at = texts.startOf(text) + place;
            boolean pair = texts.units.hasPair(at, texts.endOf(text));
            return bench.giveWhole(pair ? texts.units.pairAt(at) : texts.units.at(at));
        }

        private int givePointBefore(int text) {
            int size = texts.sizeOf(text);
            int place = bench.placeAt(2, size);
            if (place < 1 || place > size) {
                return INDEX;
            }
            int end = texts.startOf(text) + place;
            boolean pair = place > 1 && texts.units.hasPair(end - 2, end);
            return bench.giveWhole(pair ? texts.units.pairAt(end - 2) : texts.units.at(end - 1));
        }

        private int countPoints(int text) {
            int size = texts.sizeOf(text);
            int start = bench.placeAt(2, size);
            int end = bench.placeAt(3, size);
            if (start < 0 || start > end || end > size) {
                return INDEX;
            }
            int first = texts.startOf(text);
            int count = 0;
            for (int i = start; i < end; i++) {
                if (texts.units.hasPair(first + i, first + end)) {
                    i++;
                }
                count++;
            }
            return bench.giveWhole(count);
        }

        private int offset(int text) {
            int size = texts.sizeOf(text);
            int first = texts.startOf(text);
            int place = bench.placeAt(2, size);
            long behind = bench.wholeAt(3);
            // There are no more POINTS than units on either side of a place.
            if (place < 0 || place > size || behind > size || behind < -size) {
                return INDEX;
            }
            for (int i = 0; i < behind; i++) {
                place += texts.units.hasPair(first + place, first + size) ? 2 : 1;
            }
            for (int i = 0; i > behind; i--) {
                boolean pair = place > 1 && texts.units.hasPair(first + place - 2, first + place);
                place -= pair ? 2 : 1;
            }
            return place < 0 || place > size ? INDEX : bench.giveWhole(place);
        }

        private int find(int text, int sought) {
            int size = texts.sizeOf(text);
            int start = Math.max(0, bench.placeAt(3, size));
            if (texts.sizeOf(sought) == 0) {
                return bench.giveWhole(Math.min(start, size));
            }
            for (int i = start; i < size; i++) {
                if (texts.stands(sought, i, text)) {
                    return bench.giveWhole(i);
                }
            }
            return bench.giveWhole(NONE);
        }

        private int findLast(int text, int sought) {
            for (int i = bench.placeAt(3, texts.sizeOf(text)); i >= 0; i--) {
                if (texts.stands(sought, i, text)) {
                    return bench.giveWhole(i);
                }
            }
            return bench.giveWhole(NONE);
        }

        private int seek(int text) {
            long point = bench.wholeAt(2);
            int size = texts.sizeOf(text);
            int first = texts.startOf(text);
            for (int i = Math.max(0, bench.placeAt(3, size)); i < size; i++) {
                boolean pair = texts.units.hasPair(first + i, first + size);
                if (texts.unitOf(text, i) == point
                    || pair && texts.units.pairAt(first + i) == point) {
                    return bench.giveWhole(i);
                }
            }
            return bench.giveWhole(NONE);
        }
    }

    /** The STEPS that make or change a builder. */
    private static final class BuilderSteps {
        private final Bench bench;
        private final Row scratch;

        BuilderSteps(Bench bench) {
            this.bench = bench;
            scratch = bench.scratch;
        }

        int change(Sort sort) {
            int b = bench.builderAt(0);
            Row builder = bench.builders[b];
            scratch.clear();
            switch (sort) {
                case FRESH:
                    return makeFresh(b);
                case OPEN:
                    return open(b);
                case ADD:
                    return insertX(b, builder.size, 1);
                case INSERT:
                    int place = bench.placeAt(1, builder.size);
                    return place < 0 || place > builder.size ? INDEX : insertX(b, place, 2);
                case DELETE:
                    return delete(builder);
                case PUT:
                    return put(builder);
                case TURN:
                    return turn(builder);
                case SIZE:
                    return resize(b);
                default:
                    return FINE;
            }
        }

        private int makeFresh(int b) {
            long room = bench.wholeAt(1);
            if (room < 0 || room > UNIT_LIMIT) {
                return ARGUMENT;
            }
            bench.builders[b].clear();
            bench.rooms[b] = (int) room;
            return FINE;
        }

        private int open(int b) {
            bench.addText(bench.textAt(1));
            Row builder = bench.builders[b];
            builder.clear();
            builder.insert(0, scratch, 0, scratch.size);
            bench.rooms[b] = builder.size + 16;
            return FINE;
        }

        private int insertX(int b, int place, int word) {
            int kind = bench.addX(word);
            if (kind != FINE) {
                return kind;
            }
            Row builder = bench.builders[b];
            if (scratch.over || scratch.size > UNIT_LIMIT - builder.size) {
                return ROOM;
            }
            builder.insert(place, scratch, 0, scratch.size);
            makeRoom(b);
            return FINE;
        }

        private void makeRoom(int b) {
            int needed = bench.builders[b].size;
            if (needed > bench.rooms[b]) {
                bench.rooms[b] = Math.max(needed, 2 * bench.rooms[b] + 2);
            }
        }

        private int delete(Row builder) {
            int start = bench.placeAt(1, builder.size);
            int end = Math.min(builder.size, bench.placeAt(2, builder.size));
            if (start < 0 || start > end) {
                return INDEX;
            }
            builder.remove(start, end);
            return FINE;
        }

        private int put(Row builder) {
            int place = bench.placeAt(1, builder.size);
            long unit = bench.wholeAt(2);
            if (place < 0 || place >= builder.size) {
                return INDEX;
            }
            if (!Letters.isUnit(unit)) {
                return ARGUMENT;
            }
            builder.change(place, (int) unit);
            return FINE;
        }

        private int turn(Row builder) {
            for (int end = builder.size; end > 0; end--) {
                if (builder.hasPair(end - 2, end)) {
                    scratch.add(builder.at(end - 2));
                    scratch.add(builder.at(end - 1));
                    end--;
                } else {
                    scratch.add(builder.at(end - 1));
                }
            }
            builder.clear();
            builder.insert(0, scratch, 0, scratch.size);
            return FINE;
        }

        private int resize(int b) {
            Row builder = bench.builders[b];
            long size = bench.wholeAt(1);
            if (size < 0) {
                return INDEX;
            }
            if (size > UNIT_LIMIT) {
                return ROOM;
            }
            builder.shorten((int) size);
            for (int i = builder.size; i < size; i++) {
                builder.add(0);
            }
            makeRoom(b);
            return FINE;
        }
    }
}
