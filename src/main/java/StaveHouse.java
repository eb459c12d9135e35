/** A house for music: pieces told as texts, written on staves, performed, kept in files, looked through. */
public final class StaveHouse {
    /** There is none. */
    public static final int NONE = -1;

    private static final int TAPE_ROOM = 3000;
    private static final int OUT_ROOM = 20480;
    private static final int WAITING = 20;
    private static final int PIECES = 2;
    private static final int PARTS = 4;
    private static final int EVENTS = 200;
    private static final int NOTES = 800;
    private static final int BARS = 100;
    private static final int CHORD = 6;
    private static final int STEPS = 63;
    private static final int TOO_MANY = -2;

    /** A whole in the unit of all places: 128 * 2520 * 2520, so that the divisors of two brackets go into it. */
    private static final long WHOLE = 812851200L;
    /** A whole in the unit in which values of notes are chosen: the least value, 1/128 and two points, is 7 of it. */
    private static final int FINE = 512;
    /** Eight forms, each with two points, one, none. */
    private static final int VALUES = 24;

    private static final int TIE = 1;
    private static final int SLUR_BEGINS = 2;
    private static final int SLUR_ENDS = 4;
    private static final int SHORT = 8;
    private static final int ACCENT = 16;
    private static final int BROAD = 32;
    private static final int TRILL = 64;

    private static final int[] NATURAL_TONES = {0, 2, 4, 5, 7, 9, 11};
    /** Where each letter stands in the order in which sharps come: f c g d a e b. */
    private static final int[] SHARP_RANKS = {1, 3, 5, 0, 2, 4, 6};
    /** Four times the value of a note with so many points, by its form's. */
    private static final int[] POINT_QUARTERS = {4, 6, 7};

    private final ByteRow tape;
    private final int[] waiting;
    private final ByteRow written;
    private final Piece[] pieces;
    private final Parser parser;
    private final Walker walker;
    private final Scribe scribe;
    private Piece spare;
    private SoundFile opened;
    private SoundFile spareFile;

    public StaveHouse() {
        tape = new ByteRow(TAPE_ROOM);
        waiting = new int[WAITING];
        written = new ByteRow(OUT_ROOM);
        pieces = new Piece[PIECES];
        parser = new Parser();
        walker = new Walker();
        scribe = new Scribe();
    }

    public void feed(int a, int b, int c, int d, int e) {
        waitWord(0, a);
        waitWord(4, b);
        waitWord(8, c);
        waitWord(12, d);
        waitWord(16, e);
    }

    private void waitWord(int at, int word) {
        for (int n = 0; n < 4 && at + n < WAITING; n++) {
            waiting[at + n] = word >>> (24 - 8 * n) & 255;
        }
    }

    public int end(int n) {
        if (n < 0 || n > WAITING || tape.size + n > TAPE_ROOM) {
            return NONE;
        }
        for (int i = 0; i < n; i++) {
            tape.put(waiting[i]);
        }
        return tape.size;
    }

    /** Reads into a piece that nobody sees yet, so that a faulty text leaves the old one as it was. */
    public int read(int h) {
        if (h < 0 || h >= PIECES) {
            return NONE;
        }
        if (spare == null) {
            spare = new Piece();
        }
        spare.clear();
        int wrong = parser.parse(tape, spare);
        for (int v = 0; v < spare.partCount && wrong == 0; v++) {
            wrong = walker.goVoice(parser, spare, spare.parts[v]);
            if (wrong == 0) {
                wrong = spare.parts[v].judge(spare);
            }
        }
        tape.clear();
        if (wrong == 0) {
            wrong = spare.judgeEnds();
        }
        if (wrong != 0) {
            return wrong;
        }
        Piece old = pieces[h];
        pieces[h] = spare;
        spare = old;
        return 0;
    }

    private Piece pieceAt(int h) {
        return h < 0 || h >= PIECES ? null : pieces[h];
    }

    private Part partAt(int h, int v) {
        Piece piece = pieceAt(h);
        return piece == null || v < 0 || v >= piece.partCount ? null : piece.parts[v];
    }

    private Event eventAt(int h, int v, int i) {
        Part part = partAt(h, v);
        return part == null || i < 0 || i >= part.eventCount ? null : part.events[i];
    }

    private Performance performanceOf(int h) {
        Piece piece = pieceAt(h);
        return piece == null || !piece.performed ? null : piece.performance;
    }

    public int look(int h, int what) {
        Piece piece = pieceAt(h);
        if (piece == null) {
            return NONE;
        }
        switch (what) {
            case 0: return piece.partCount;
            case 1: return piece.bars;
            case 2: return piece.fifths;
            case 3: return piece.minor;
            case 4: return piece.above;
            case 5: return piece.below;
            case 6: return piece.tempo;
            case 7: return piece.studyMade().moments;
            case 8: return piece.studyMade().faults;
            case 9: return piece.soundsMade().keyHeard();
            case 10: return piece.layout == null ? 0 : piece.layout.lineCount;
            case 11: return piece.performed ? piece.soundsMade().count : 0;
            case 12: return piece.performed ? 2 * piece.soundsMade().count : 0;
            case 13: return piece.performed ? piece.soundsMade().made : 0;
            default: return NONE;
        }
    }

    public int voice(int h, int v, int what) {
        Part part = partAt(h, v);
        if (part == null) {
            return NONE;
        }
        switch (what) {
            case 0: return part.clef;
            case 1: return part.number;
            case 2: return part.eventCount;
            case 3: return part.noteCount;
            default: return NONE;
        }
    }

    public long name(int h, int v) {
        Part part = partAt(h, v);
        return part == null ? 0 : part.word;
    }

    public long event(int h, int v, int i, int what) {
        Event event = eventAt(h, v, i);
        if (event == null) {
            return NONE;
        }
        switch (what) {
            case 0: return above(event.place);
            case 1: return below(event.place);
            case 2: return above(event.length);
            case 3: return below(event.length);
            case 4: return event.count;
            case 5: return event.marks;
            case 6: return event.loud;
            case 7: return event.token;
            default: return NONE;
        }
    }

    public int pitch(int h, int v, int i, int k, int what) {
        Event event = eventAt(h, v, i);
        if (event == null || k < 0 || k >= event.count) {
            return Integer.MIN_VALUE;
        }
        switch (what) {
            case 0: return event.steps[k];
            case 1: return event.alterations[k];
            case 2: return event.tone(k);
            default: return Integer.MIN_VALUE;
        }
    }

    public long note(int h, int v, int i, int what) {
        Part part = partAt(h, v);
        if (part == null || i < 0 || i >= part.noteCount || what < 0 || what >= Part.NOTE_ROWS) {
            return NONE;
        }
        if (what == 2) {
            return above(part.notePlaces[i]);
        }
        return what == 3 ? below(part.notePlaces[i]) : part.notes[what][i];
    }

    public int lines(int h, int width) {
        Piece piece = pieceAt(h);
        if (piece == null || width < 200 || width > 2000) {
            return NONE;
        }
        if (piece.layout == null) {
            piece.layout = new Layout();
        }
        return piece.layout.breakLines(piece, width);
    }

    public long line(int h, int l, int what) {
        Piece piece = pieceAt(h);
        if (piece == null || piece.layout == null) {
            return NONE;
        }
        return piece.layout.tell(l, what);
    }

    public int x(int h, int v, int i) {
        Part part = partAt(h, v);
        Piece piece = pieceAt(h);
        if (part == null || piece == null || piece.layout == null || i < 0 || i >= part.noteCount) {
            return NONE;
        }
        return piece.layout.columnX(part.notes[Part.BAR][i], part.notePlaces[i]);
    }

    public int perform(int h) {
        Piece piece = pieceAt(h);
        if (piece == null) {
            return NONE;
        }
        Performance performance = piece.soundsMade();
        if (performance.tooMany) {
            return TOO_MANY;
        }
        performance.begin();
        piece.performed = true;
        return performance.count;
    }

    public int stroke(int h, int i, int what) {
        Performance performance = performanceOf(h);
        return performance == null ? NONE : performance.strokeTold(i, what);
    }

    public int file(int h) {
        Piece piece = pieceAt(h);
        Performance performance = performanceOf(h);
        if (piece == null || performance == null) {
            return NONE;
        }
        written.clear();
        performance.write(piece, written);
        return written.size;
    }

    public int out(int i) {
        return written.at(i);
    }

    public int again() {
        if (written.size == 0 || written.size > TAPE_ROOM) {
            return NONE;
        }
        tape.clear();
        for (int i = 0; i < written.size; i++) {
            tape.put(written.at(i));
        }
        return tape.size;
    }

    public int open() {
        if (spareFile == null) {
            spareFile = new SoundFile();
        }
        int wrong = spareFile.load(tape);
        tape.clear();
        if (wrong != 0) {
            return wrong;
        }
        SoundFile old = opened;
        opened = spareFile;
        spareFile = old;
        return 0;
    }

    public int track(int what) {
        if (opened == null || what < 0 || what > SoundFile.SOUNDS_TOLD) {
            return Integer.MIN_VALUE;
        }
        return what == SoundFile.SOUNDS_TOLD ? opened.count : opened.head[what];
    }

    public long sound(int i, int what) {
        if (opened == null || i < 0 || i >= opened.count || what < 0 || what >= SoundFile.ROWS) {
            return NONE;
        }
        return opened.sounds[what][i];
    }

    public int down(int grid) {
        boolean isGrid = grid == 4 || grid == 8 || grid == 16 || grid == 32;
        if (opened == null || opened.count == 0 || !isGrid) {
            return NONE;
        }
        return scribe.writeDown(opened, grid, written);
    }

    public int play(int h, int n) {
        Performance performance = performanceOf(h);
        Piece piece = pieceAt(h);
        if (performance == null || piece == null || n < 0 || n > Performance.PLAYED) {
            return NONE;
        }
        return performance.playOn(piece, n);
    }

    public int sample(int h, int i, int what) {
        Performance performance = performanceOf(h);
        if (performance == null || i < 0 || i >= performance.latest) {
            return Integer.MIN_VALUE;
        }
        switch (what) {
            case 0: return performance.heardRow[i];
            case 1: return performance.codeRow[i];
            default: return Integer.MIN_VALUE;
        }
    }

    public long moment(int h, int i, int what) {
        Piece piece = pieceAt(h);
        if (piece == null || i < 0 || i >= piece.studyMade().moments) {
            return Integer.MIN_VALUE;
        }
        Study study = piece.studyMade();
        switch (what) {
            case 0: return above(study.places[i]);
            case 1: return below(study.places[i]);
            default: return what < 0 || what > 8 ? Integer.MIN_VALUE : study.chordTold(piece, i, what);
        }
    }

    public int fault(int h, int i, int what) {
        Piece piece = pieceAt(h);
        if (piece == null || what < 0 || what >= Study.FAULT_ROWS || i < 0 || i >= piece.studyMade().faults) {
            return NONE;
        }
        return piece.studyMade().faultRows[what][i];
    }

    public long follows(int h, int u, int v, int what) {
        Part ahead = partAt(h, u);
        Part behind = partAt(h, v);
        if (ahead == null || behind == null || u == v || what < 0 || what > 3) {
            return NONE;
        }
        int i = ahead.firstSounding();
        int j = behind.firstSounding();
        int length = i == NONE || j == NONE ? 0 : behind.followedFor(ahead, i, j);
        if (length == 0) {
            return 0;
        }
        long later = behind.events[j].place - ahead.events[i].place;
        switch (what) {
            case 0: return length;
            case 1: return behind.events[j].topStep() - ahead.events[i].topStep();
            case 2: return above(later);
            default: return below(later);
        }
    }

    public int shape(int h, int v, int i, int n, int g, int w, int kind, int k) {
        Part model = partAt(h, v);
        Part part = partAt(g, w);
        boolean wrong = model == null || part == null || n < 2 || n > 20 || kind < 0 || kind > 7;
        if (wrong || k < 0 || i < 0 || i > model.eventCount - n) {
            return NONE;
        }
        int left = k;
        for (int j = 0; j <= part.eventCount - n; j++) {
            if (part.hasShape(j, model, i, n, kind)) {
                if (left == 0) {
                    return j;
                }
                left--;
            }
        }
        return NONE;
    }

    private static long gcd(long a, long b) {
        long x = a;
        long y = b;
        for (int n = 0; n < 200 && y != 0; n++) {
            long rest = x % y;
            x = y;
            y = rest;
        }
        return x;
    }

    private static long above(long place) {
        long common = gcd(place, WHOLE);
        return common == 0 ? place : place / common;
    }

    private static long below(long place) {
        long common = gcd(place, WHOLE);
        return common == 0 ? WHOLE : WHOLE / common;
    }

    private static int naturalTone(int step) {
        return 12 * (Math.floorDiv(step, 7) + 1) + NATURAL_TONES[Math.floorMod(step, 7)];
    }

    private static int keyAlteration(int fifths, int letter) {
        int rank = SHARP_RANKS[Math.floorMod(letter, 7)];
        if (fifths > 0) {
            return rank < fifths ? 1 : 0;
        }
        return 6 - rank < -fifths ? -1 : 0;
    }

    /** The beat of a time, as so many of its lower number. */
    private static int beatCount(int above, int below) {
        if (below >= 8 && above % 3 == 0) {
            return 3;
        }
        return below <= 4 ? 1 : 2;
    }

    /** Values of notes by falling size: 3 * form, and 0, 1, 2 more for two points, one, none. */
    private static int fineValue(int value) {
        return (FINE >> value / 3) * POINT_QUARTERS[2 - value % 3] / 4;
    }

    private static int greatestValue(int left) {
        for (int value = 0; value < VALUES; value++) {
            if (fineValue(value) <= left) {
                return value;
            }
        }
        return VALUES - 1;
    }

    /** The greatest value that covers no place stronger than both its ends; without one the greatest of all. */
    private static int nextValue(int above, int below, int from, int left) {
        int unit = FINE / Math.max(below, 1);
        int bar = unit * above;
        int beat = unit * beatCount(above, below);
        int begins = strength(bar, beat, unit, from);
        for (int value = 0; value < VALUES; value++) {
            int to = from + fineValue(value);
            if (to <= from + left) {
                int ends = Math.max(begins, strength(bar, beat, unit, to));
                if (strengthBetween(bar, beat, unit, from, to) <= ends) {
                    return value;
                }
            }
        }
        return greatestValue(left);
    }

    private static int strength(int bar, int beat, int unit, int at) {
        if (at == 0 || at == bar) {
            return 9;
        }
        if (bar % (2 * unit) == 0 && 2 * at == bar) {
            return 8;
        }
        if (at % beat == 0) {
            return 7;
        }
        for (int n = 0; n < 5; n++) {
            if (at % (unit >> n) == 0) {
                return 6 - n;
            }
        }
        return 1;
    }

    /** The greatest strength of the places behind from and ahead of to. */
    private static int strengthBetween(int bar, int beat, int unit, int from, int to) {
        if (bar % (2 * unit) == 0 && 2 * from < bar && bar < 2 * to) {
            return 8;
        }
        if ((to - 1) / beat * beat > from) {
            return 7;
        }
        for (int n = 0; n < 5; n++) {
            int part = unit >> n;
            if ((to - 1) / part * part > from) {
                return 6 - n;
            }
        }
        return 1;
    }

    /** Bytes one behind the other, up to a room; what comes beyond it is only remembered as having come. */
    private static final class ByteRow {
        private final int[] bytes;
        int size;
        boolean full;

        ByteRow(int room) {
            bytes = new int[Math.max(room, 1)];
        }

        void clear() {
            size = 0;
            full = false;
        }

        int at(int i) {
            return i < 0 || i >= size ? NONE : bytes[i];
        }

        void put(int b) {
            if (size >= bytes.length) {
                full = true;
                return;
            }
            bytes[size] = b & 255;
            size++;
        }

        void putText(String text) {
            for (int i = 0; i < text.length(); i++) {
                put(text.charAt(i));
            }
        }

        void putDecimal(int number) {
            int power = 1;
            for (int n = 0; n < 9 && number / power >= 10; n++) {
                power *= 10;
            }
            for (int n = 0; n < 10 && power > 0; n++) {
                put('0' + number / power % 10);
                power /= 10;
            }
        }

        void putWide(int number, int count) {
            for (int n = count - 1; n >= 0; n--) {
                put(number >>> 8 * n);
            }
        }

        void putDelta(int number) {
            for (int n = 3; n > 0; n--) {
                if (number >>> 7 * n != 0) {
                    put(number >>> 7 * n & 127 | 128);
                }
            }
            put(number & 127);
        }

        /** The size of a chunk is known only when all of it stands: four bytes at its head are set then. */
        void setWide(int at, int number) {
            for (int n = 0; n < 4; n++) {
                if (at + n >= 0 && at + n < size) {
                    bytes[at + n] = number >>> 24 - 8 * n & 255;
                }
            }
        }
    }

    /** The tokens of a text: all are found at the start, then gone through one at a time. */
    private static final class Tokens {
        static final int END = 0;
        static final int BAD = 1;
        static final int PITCH = 2;
        static final int NUMBER = 3;
        static final int WORD = 4;
        static final int SIGN = 5;
        private static final String SIGNS = "{}[]<>():/.|~!'^-%=";

        /** Of the token that is come to; the value: a number, a word's letters as bytes, a sign. */
        int kind;
        int place;
        long value;
        int step;
        int alteration;
        private final int[] kinds = new int[TAPE_ROOM + 1];
        private final int[] places = new int[TAPE_ROOM + 1];
        private final long[] values = new long[TAPE_ROOM + 1];
        private int next;

        void start(ByteRow tape) {
            int at = 0;
            int count = 0;
            for (int n = 0; n < TAPE_ROOM && at < tape.size; n++) {
                int b = tape.at(at);
                if (isBlank(b)) {
                    at++;
                } else {
                    int behind = isRunByte(b) ? runEnd(tape, at) : at + 1;
                    places[count] = at;
                    if (isRunByte(b)) {
                        keepRun(tape, count, at, behind);
                    } else {
                        kinds[count] = SIGNS.indexOf((char) b) >= 0 ? SIGN : BAD;
                        values[count] = b;
                    }
                    at = behind;
                    count++;
                }
            }
            kinds[count] = END;
            places[count] = tape.size;
            values[count] = 0;
            next = 0;
            advance();
        }

        /** Behind the end there is only the end. */
        void advance() {
            kind = kinds[next];
            place = places[next];
            value = values[next];
            if (kind == PITCH) {
                step = (int) value / 8;
                alteration = (int) value % 8 - 2;
            }
            if (kind != END && next < TAPE_ROOM) {
                next++;
            }
        }

        boolean isSign(char sign) {
            return kind == SIGN && value == sign;
        }

        boolean isWord(long word) {
            return kind == WORD && value == word;
        }

        private static int runEnd(ByteRow tape, int from) {
            int behind = from;
            while (behind < tape.size && isRunByte(tape.at(behind))) {
                behind++;
            }
            return behind;
        }

        private void keepRun(ByteRow tape, int count, int from, int behind) {
            int letters = 0;
            int digits = 0;
            for (int i = from; i < behind; i++) {
                letters += isLetter(tape.at(i)) ? 1 : 0;
                digits += isDigit(tape.at(i)) ? 1 : 0;
            }
            int size = behind - from;
            kinds[count] = BAD;
            values[count] = 0;
            if (isPitch(tape, from, size)) {
                kinds[count] = PITCH;
                values[count] = pitchValue(tape, from, size);
            } else if (digits == size && size <= 4) {
                kinds[count] = NUMBER;
                values[count] = joined(tape, from, size, 10, '0');
            } else if (letters == size && size <= 8) {
                kinds[count] = WORD;
                values[count] = joined(tape, from, size, 256, 0);
            }
        }

        private static long joined(ByteRow tape, int from, int size, int base, int zero) {
            long sum = 0;
            for (int n = 0; n < size; n++) {
                sum = sum * base + tape.at(from + n) - zero;
            }
            return sum;
        }

        private static boolean isPitch(ByteRow tape, int from, int size) {
            int letter = tape.at(from);
            int octave = tape.at(from + size - 1);
            if (size < 2 || size > 4 || letter < 'a' || letter > 'g' || octave < '0' || octave > '8') {
                return false;
            }
            int sign = tape.at(from + 1);
            for (int n = 1; n < size - 1; n++) {
                int b = tape.at(from + n);
                if (b != sign || b != '#' && b != 'b') {
                    return false;
                }
            }
            return true;
        }

        /** The step and the alteration in one number: eight alterations would have room for each step. */
        private static long pitchValue(ByteRow tape, int from, int size) {
            int letter = (tape.at(from) - 'a' + 5) % 7;
            int step = 7 * (tape.at(from + size - 1) - '0') + letter;
            int alteration = tape.at(from + 1) == '#' ? size - 2 : 2 - size;
            return 8 * step + alteration + 2;
        }

        private static boolean isBlank(int b) {
            return b == 9 || b == 10 || b == 13 || b == 32;
        }

        private static boolean isLetter(int b) {
            return b >= 'a' && b <= 'z';
        }

        private static boolean isDigit(int b) {
            return b >= '0' && b <= '9';
        }

        private static boolean isRunByte(int b) {
            return isLetter(b) || isDigit(b) || b == '#';
        }
    }

    /** Reads a text into rows of items; an item's parts hang at its child, what follows it at its next. */
    private static final class Parser {
        static final int EVENT = 0;
        static final int BAR_LINE = 1;
        static final int LOUD = 2;
        static final int BRACKET = 3;
        static final int REPEAT = 4;
        static final int USE = 5;
        static final int MOVE = 6;
        static final int MIRROR = 7;
        static final int BACK = 8;
        static final int SLOW = 9;
        static final int BLOCK = 10;

        private static final int LETS = 6;
        private static final int OPEN_AT_ONCE = 8;
        private static final int QUARTER = 32;
        private static final String MARKS = "~()'^-%";
        // words are kept as names are told: their letters as bytes, the last one lowest
        private static final long KEY = 0x6b6579L;
        private static final long MAJOR = 0x6d616a6f72L;
        private static final long MINOR = 0x6d696e6f72L;
        private static final long TIME = 0x74696d65L;
        private static final long TEMPO = 0x74656d706fL;
        private static final long LET = 0x6c6574L;
        private static final long VOICE = 0x766f696365L;
        private static final long ALT = 0x616c74L;
        private static final long REST = 0x72L;
        private static final long[] CLEFS = {0x747265626c65L, 0x62617373L, 0x616c746fL, 0x74656e6f72L};
        private static final long[] LOUDS =
            {0x707070L, 0x7070L, 0x70L, 0x6d70L, 0x6d66L, 0x66L, 0x6666L, 0x666666L};
        /** repeat, use, move, mirror, back, slow: as their kinds follow one another. */
        private static final long[] BEGINNERS =
            {0x726570656174L, 0x757365L, 0x6d6f7665L, 0x6d6972726f72L, 0x6261636bL, 0x736c6f77L};
        private static final long[] OTHER_WORDS = {0x6b6579L, 0x6d616a6f72L, 0x6d696e6f72L, 0x74696d65L,
            0x74656d706fL, 0x6c6574L, 0x766f696365L, 0x616c74L, 0x72L};

        final int[] kind = new int[TAPE_ROOM];
        final int[] place = new int[TAPE_ROOM];
        final int[] first = new int[TAPE_ROOM];
        final int[] second = new int[TAPE_ROOM];
        final int[] child = new int[TAPE_ROOM];
        final int[] next = new int[TAPE_ROOM];
        final int[] count = new int[TAPE_ROOM];
        final int[] marks = new int[TAPE_ROOM];
        final int[] pitchSteps = new int[TAPE_ROOM / 2];
        final int[] pitchAlterations = new int[TAPE_ROOM / 2];
        final int[] pitchPlaces = new int[TAPE_ROOM / 2];
        private final Tokens token = new Tokens();
        private final long[] letNames = new long[LETS];
        private final int[] letItems = new int[LETS];
        private int items;
        private int pitches;
        private int lets;
        private int headsTold;
        private int depth;
        private int number;
        private int length;
        private int wrong;

        /** The fault of the text and 16 * its place; 0 if it has none. */
        int parse(ByteRow tape, Piece piece) {
            items = 0;
            pitches = 0;
            lets = 0;
            headsTold = 0;
            depth = 0;
            wrong = 0;
            token.start(tape);
            boolean right = true;
            for (int n = 0; n < LETS + 3 && right && beginsHead(); n++) {
                right = token.isWord(LET) ? takeLet() : takeHead(piece);
            }
            if (right && !token.isWord(VOICE)) {
                right = refuse(2);
            }
            for (int n = 0; n < PARTS && right && token.isWord(VOICE); n++) {
                right = takeVoice(piece);
            }
            if (right && token.kind != Tokens.END) {
                refuse(2);
            }
            return wrong;
        }

        private boolean refuse(int sort) {
            wrong = (token.kind == Tokens.BAD ? 1 : sort) + 16 * token.place;
            return false;
        }

        private boolean beginsHead() {
            if (token.isWord(LET)) {
                return lets < LETS;
            }
            return headSort() != 0 && (headsTold & headSort()) == 0;
        }

        private int headSort() {
            if (token.isWord(KEY)) {
                return 1;
            }
            if (token.isWord(TIME)) {
                return 2;
            }
            return token.isWord(TEMPO) ? 4 : 0;
        }

        private boolean takeHead(Piece piece) {
            int sort = headSort();
            headsTold |= sort;
            token.advance();
            if (sort == 1) {
                return takeKey(piece);
            }
            if (sort == 2) {
                return takeTime(piece);
            }
            if (!takeNumber(20, 300, false)) {
                return false;
            }
            piece.tempo = number;
            return true;
        }

        private boolean takeTime(Piece piece) {
            if (!takeNumber(1, 12, false)) {
                return false;
            }
            piece.above = number;
            if (!takeSign('/') || !takeNumber(2, 16, true)) {
                return false;
            }
            piece.below = number;
            return true;
        }

        private boolean takeKey(Piece piece) {
            boolean flat = token.isSign('-');
            if (flat) {
                token.advance();
            }
            if (!takeNumber(0, 7, false)) {
                return false;
            }
            piece.fifths = flat ? -number : number;
            piece.minor = token.isWord(MINOR) ? 1 : 0;
            if (!token.isWord(MINOR) && !token.isWord(MAJOR)) {
                return refuse(2);
            }
            token.advance();
            return true;
        }

        private boolean takeLet() {
            int root = newItem(BLOCK);
            token.advance();
            if (!isName()) {
                return refuse(2);
            }
            long word = token.value;
            if (letNamed(word) != NONE) {
                return refuse(4);
            }
            token.advance();
            length = QUARTER;
            if (!takeSign('=') || !takeBlock(root)) {
                return false;
            }
            letNames[lets] = word;
            letItems[lets] = root;
            lets++;
            return true;
        }

        private int letNamed(long word) {
            for (int n = 0; n < lets; n++) {
                if (letNames[n] == word) {
                    return letItems[n];
                }
            }
            return NONE;
        }

        private boolean takeVoice(Piece piece) {
            int root = newItem(BLOCK);
            token.advance();
            if (!isName()) {
                return refuse(2);
            }
            long word = token.value;
            if (piece.hasPartNamed(word)) {
                return refuse(4);
            }
            token.advance();
            int clef = token.kind == Tokens.WORD ? indexOf(CLEFS, token.value) : NONE;
            if (clef == NONE) {
                return refuse(2);
            }
            token.advance();
            if (!takeNumber(0, 3, false)) {
                return false;
            }
            Part part = piece.newPart();
            part.word = word;
            part.clef = clef;
            part.number = number;
            part.token = place[root];
            part.root = root;
            length = QUARTER;
            return takeBlock(root);
        }

        private boolean isName() {
            long word = token.value;
            return token.kind == Tokens.WORD && indexOf(CLEFS, word) == NONE && indexOf(LOUDS, word) == NONE
                && indexOf(BEGINNERS, word) == NONE && indexOf(OTHER_WORDS, word) == NONE;
        }

        private static int indexOf(long[] words, long word) {
            for (int n = 0; n < words.length; n++) {
                if (words[n] == word) {
                    return n;
                }
            }
            return NONE;
        }

        private boolean takeSign(char sign) {
            if (!token.isSign(sign)) {
                return refuse(2);
            }
            token.advance();
            return true;
        }

        private boolean takeNumber(int least, int most, boolean powersOnly) {
            if (token.kind != Tokens.NUMBER) {
                return refuse(2);
            }
            boolean fits = token.value >= least && token.value <= most;
            if (!fits || powersOnly && Long.bitCount(token.value) != 1) {
                return refuse(5);
            }
            number = (int) token.value;
            token.advance();
            return true;
        }

        private int newItem(int sort) {
            int item = Math.min(items, TAPE_ROOM - 1);
            items = item + 1;
            kind[item] = sort;
            place[item] = token.place;
            first[item] = 0;
            second[item] = NONE;
            child[item] = NONE;
            next[item] = NONE;
            count[item] = 0;
            marks[item] = 0;
            return item;
        }

        private boolean takeOpening(char sign) {
            if (!token.isSign(sign)) {
                return refuse(2);
            }
            if (depth >= OPEN_AT_ONCE) {
                return refuse(3);
            }
            depth++;
            token.advance();
            return true;
        }

        private boolean takeClosing(char sign) {
            depth--;
            return takeSign(sign);
        }

        private boolean takeBlock(int item) {
            return takeOpening('{') && takeMusic(item) && takeClosing('}');
        }

        /** Goes no deeper than the openings, of which takeOpening() refuses the ninth. */
        private boolean takeMusic(int parent) {
            int last = NONE;
            for (int n = 0; n < TAPE_ROOM; n++) {
                int sort = itemSort();
                if (sort == NONE) {
                    return true;
                }
                int item = newItem(sort);
                if (last == NONE) {
                    child[parent] = item;
                } else {
                    next[last] = item;
                }
                last = item;
                if (!takeItem(item)) {
                    return false;
                }
            }
            return true;
        }

        private int itemSort() {
            if (token.kind == Tokens.WORD) {
                int word = indexOf(BEGINNERS, token.value);
                if (word != NONE) {
                    return REPEAT + word;
                }
                return token.value == REST ? EVENT : NONE;
            }
            if (token.kind == Tokens.PITCH || token.isSign('<')) {
                return EVENT;
            }
            if (token.isSign('|')) {
                return BAR_LINE;
            }
            if (token.isSign('!')) {
                return LOUD;
            }
            return token.isSign('[') ? BRACKET : NONE;
        }

        private boolean takeItem(int item) {
            if (kind[item] == EVENT) {
                return takeEvent(item);
            }
            if (kind[item] == BRACKET) {
                return takeBracket(item);
            }
            token.advance();
            switch (kind[item]) {
                case LOUD: return takeLoud(item);
                case REPEAT: return takeRepeat(item);
                case USE: return takeUse(item);
                case MOVE: return takeMove(item);
                case MIRROR: return takeMirror(item);
                case BACK: return takeBlock(item);
                case SLOW: return takeFraction(item, 1, 8) && takeBlock(item);
                default: return true;
            }
        }

        private boolean takeEvent(int item) {
            second[item] = pitches;
            boolean rest = token.kind == Tokens.WORD;
            if (rest) {
                token.advance();
            } else if (token.kind == Tokens.PITCH) {
                takePitch(item);
            } else if (!takeChord(item)) {
                return false;
            }
            if (token.isSign(':') && !takeLength()) {
                return false;
            }
            first[item] = length;
            if (!rest) {
                takeMarks(item);
            }
            return true;
        }

        private void takePitch(int item) {
            if (pitches < pitchSteps.length) {
                pitchSteps[pitches] = token.step;
                pitchAlterations[pitches] = token.alteration;
                pitchPlaces[pitches] = token.place;
                pitches++;
                count[item]++;
            }
            token.advance();
        }

        private boolean takeChord(int item) {
            token.advance();
            for (int n = 0; n < CHORD && token.kind == Tokens.PITCH; n++) {
                takePitch(item);
            }
            return count[item] < 2 ? refuse(2) : takeSign('>');
        }

        private boolean takeLength() {
            token.advance();
            if (!takeNumber(1, 32, true)) {
                return false;
            }
            int value = 128 / Math.max(number, 1);
            int points = 0;
            for (int n = 0; n < 2 && token.isSign('.'); n++) {
                points++;
                token.advance();
            }
            length = value * POINT_QUARTERS[points] / 4;
            return true;
        }

        private void takeMarks(int item) {
            for (int n = 0; n < MARKS.length() && token.kind == Tokens.SIGN; n++) {
                int mark = MARKS.indexOf((char) token.value);
                if (mark < 0 || (marks[item] >> mark & 1) != 0) {
                    return;
                }
                marks[item] |= 1 << mark;
                token.advance();
            }
        }

        private boolean takeLoud(int item) {
            int loud = token.kind == Tokens.WORD ? indexOf(LOUDS, token.value) : NONE;
            if (loud == NONE) {
                return refuse(2);
            }
            first[item] = loud;
            token.advance();
            return true;
        }

        private boolean takeFraction(int item, int least, int most) {
            if (!takeNumber(least, most, false)) {
                return false;
            }
            first[item] = number;
            if (!takeSign('/') || !takeNumber(1, most, false)) {
                return false;
            }
            second[item] = number;
            return true;
        }

        private boolean takeBracket(int item) {
            return takeOpening('[') && takeFraction(item, 2, 9) && takeSign(':') && takeMusic(item)
                && takeClosing(']');
        }

        private boolean takeRepeat(int item) {
            if (!takeNumber(2, 4, false)) {
                return false;
            }
            first[item] = number;
            if (!takeBlock(item)) {
                return false;
            }
            return !token.isWord(ALT) || takeAlternatives(item);
        }

        private boolean takeAlternatives(int item) {
            token.advance();
            int last = NONE;
            for (int n = 0; n < TAPE_ROOM && (last == NONE || token.isSign('{')); n++) {
                int block = newItem(BLOCK);
                if (last == NONE) {
                    second[item] = block;
                } else {
                    next[last] = block;
                }
                last = block;
                if (!takeBlock(block)) {
                    return false;
                }
            }
            return true;
        }

        private boolean takeUse(int item) {
            if (!isName()) {
                return refuse(2);
            }
            int let = letNamed(token.value);
            if (let == NONE) {
                return refuse(4);
            }
            first[item] = let;
            token.advance();
            return true;
        }

        private boolean takeMove(int item) {
            if (token.kind != Tokens.PITCH) {
                return refuse(2);
            }
            int step = token.step;
            int tone = naturalTone(step) + token.alteration;
            token.advance();
            if (token.kind != Tokens.PITCH) {
                return refuse(2);
            }
            first[item] = token.step - step;
            second[item] = naturalTone(token.step) + token.alteration - tone;
            token.advance();
            return takeBlock(item);
        }

        private boolean takeMirror(int item) {
            if (token.kind != Tokens.PITCH) {
                return refuse(2);
            }
            first[item] = 2 * token.step;
            second[item] = 2 * (naturalTone(token.step) + token.alteration);
            token.advance();
            return takeBlock(item);
        }
    }

    /** Goes through a voice's items and makes its events. */
    private static final class Walker {
        private static final int ITEMS = 5000;
        /** A voice and six lets, eight openings each, can stand within one another. */
        private static final int DEEPEST = 64;
        private static final int MEZZO_FORTE = 4;
        private static final int[] PRIMES = {2, 3, 5, 7};

        private Parser tree;
        private Part part;
        private int wrong;
        private int gone;
        private int loud;
        private int backs;
        private int brackets;
        private int bracket;
        private int bracketPlace;
        private int tupletFirst;
        private int tupletSecond;
        private long come;
        private long farthest;
        private long bar;
        /** What the slows around come to, as powers of the primes: their product itself may have no room. */
        private final int[] powers = new int[4];
        private final int[] carrySigns = new int[DEEPEST];
        private final int[] carrySteps = new int[DEEPEST];
        private final int[] carryTones = new int[DEEPEST];
        private int carries;

        int goVoice(Parser items, Piece piece, Part voice) {
            tree = items;
            part = voice;
            wrong = 0;
            gone = 0;
            loud = MEZZO_FORTE;
            backs = 0;
            brackets = 0;
            bracket = 0;
            bracketPlace = 0;
            tupletFirst = 1;
            tupletSecond = 1;
            come = 0;
            bar = piece.barLength();
            farthest = BARS * bar;
            carries = 0;
            for (int n = 0; n < powers.length; n++) {
                powers[n] = 0;
            }
            goThrough(tree.child[part.root], 0);
            return wrong;
        }

        private void refuse(int sort, int place) {
            if (wrong == 0) {
                wrong = sort + 16 * place;
            }
        }

        private void goThrough(int firstItem, int depth) {
            int item = firstItem;
            for (int n = 0; n < TAPE_ROOM && item != NONE && wrong == 0 && depth < DEEPEST; n++) {
                countItem(tree.place[item]);
                if (wrong == 0) {
                    goItem(item, depth);
                }
                item = tree.next[item];
            }
        }

        private void countItem(int place) {
            gone++;
            if (gone > ITEMS) {
                refuse(8, place);
            }
        }

        private void goItem(int item, int depth) {
            int inner = tree.child[item];
            switch (tree.kind[item]) {
                case Parser.EVENT:
                    makeEvent(item);
                    break;
                case Parser.BAR_LINE:
                    if (backs == 0 && bar > 0 && come % bar != 0) {
                        refuse(7, tree.place[item]);
                    }
                    break;
                case Parser.LOUD:
                    loud = tree.first[item];
                    break;
                case Parser.BRACKET:
                    goBracket(item, depth);
                    break;
                case Parser.REPEAT:
                    goRepeat(item, depth);
                    break;
                case Parser.USE:
                    goThrough(tree.child[tree.first[item]], depth + 1);
                    break;
                case Parser.MOVE:
                    goCarried(1, item, depth);
                    break;
                case Parser.MIRROR:
                    goCarried(-1, item, depth);
                    break;
                case Parser.BACK:
                    goBack(inner, depth);
                    break;
                case Parser.SLOW:
                    multiplySlow(tree.first[item], 1);
                    multiplySlow(tree.second[item], -1);
                    goThrough(inner, depth + 1);
                    multiplySlow(tree.first[item], -1);
                    multiplySlow(tree.second[item], 1);
                    break;
                default:
                    break;
            }
        }

        private void goBracket(int item, int depth) {
            int oldFirst = tupletFirst;
            int oldSecond = tupletSecond;
            if (brackets == 0) {
                bracket++;
                bracketPlace = tree.place[item];
            }
            brackets++;
            if (brackets <= 2) {
                tupletFirst *= tree.first[item];
                tupletSecond *= tree.second[item];
            }
            goThrough(tree.child[item], depth + 1);
            brackets--;
            tupletFirst = oldFirst;
            tupletSecond = oldSecond;
        }

        private void goRepeat(int item, int depth) {
            int alternative = tree.second[item];
            for (int n = 0; n < tree.first[item] && wrong == 0; n++) {
                countItem(tree.place[item]);
                goThrough(tree.child[item], depth + 1);
                if (alternative != NONE) {
                    countItem(tree.place[item]);
                    goThrough(tree.child[alternative], depth + 1);
                    int after = tree.next[alternative];
                    alternative = after == NONE ? alternative : after;
                }
            }
        }

        private void goCarried(int sign, int item, int depth) {
            if (carries >= DEEPEST) {
                return;
            }
            carrySigns[carries] = sign;
            carrySteps[carries] = tree.first[item];
            carryTones[carries] = tree.second[item];
            carries++;
            goThrough(tree.child[item], depth + 1);
            carries--;
        }

        private void goBack(int inner, int depth) {
            int from = part.eventCount;
            backs++;
            goThrough(inner, depth + 1);
            backs--;
            part.turn(from);
        }

        private void multiplySlow(int number, int sign) {
            int left = number;
            for (int p = 0; p < PRIMES.length; p++) {
                for (int n = 0; n < 4 && left % PRIMES[p] == 0; n++) {
                    left /= PRIMES[p];
                    powers[p] += sign;
                }
            }
        }

        /** A value times the slows around, in 128ths of a whole; NONE if it is no such number up to 8 wholes. */
        private int slowed(int value) {
            int left = value;
            for (int p = 0; p < PRIMES.length; p++) {
                for (int n = powers[p]; n < 0; n++) {
                    if (left % PRIMES[p] != 0) {
                        return NONE;
                    }
                    left /= PRIMES[p];
                }
            }
            for (int p = 0; p < PRIMES.length; p++) {
                for (int n = 0; n < powers[p]; n++) {
                    left *= PRIMES[p];
                    if (left > 8 * 128) {
                        return NONE;
                    }
                }
            }
            return left > 8 * 128 ? NONE : left;
        }

        private void makeEvent(int item) {
            int token = tree.place[item];
            int value = brackets > 2 ? NONE : slowed(tree.first[item]);
            if (value == NONE || tupletFirst < 1) {
                refuse(12, token);
                return;
            }
            long length = WHOLE / 128 * value / tupletFirst * tupletSecond;
            if (part.eventCount >= EVENTS || come + length > farthest) {
                refuse(8, token);
                return;
            }
            Event event = part.events[part.eventCount];
            event.length = length;
            event.value = value;
            event.tupletFirst = tupletFirst;
            event.tupletSecond = tupletSecond;
            event.bracket = brackets == 0 ? 0 : bracket;
            event.bracketPlace = bracketPlace;
            event.marks = tree.marks[item];
            event.loud = loud;
            event.token = token;
            event.count = 0;
            for (int k = 0; k < tree.count[item] && wrong == 0; k++) {
                addPitch(event, tree.second[item] + k);
            }
            part.eventCount++;
            come += length;
        }

        private void addPitch(Event event, int pitch) {
            int step = tree.pitchSteps[pitch];
            int tone = naturalTone(step) + tree.pitchAlterations[pitch];
            boolean right = true;
            for (int n = carries - 1; n >= 0 && right; n--) {
                step = carrySteps[n] + carrySigns[n] * step;
                tone = carryTones[n] + carrySigns[n] * tone;
                right = step >= 0 && step < STEPS && Math.abs(tone - naturalTone(step)) <= 2;
            }
            if (!right || !event.insert(step, tone - naturalTone(step))) {
                refuse(9, tree.pitchPlaces[pitch]);
            }
        }
    }

    /** An event of a voice; its pitches stand from the least step upwards. */
    private static final class Event {
        long place;
        long length;
        /** Its length as written within all brackets, in 128ths of a whole. */
        int value;
        int tupletFirst;
        int tupletSecond;
        /** Which going through of an outermost bracket made it, from 1 on; 0: none. */
        int bracket;
        int bracketPlace;
        int marks;
        int loud;
        int token;
        int count;
        boolean slurred;
        final int[] steps = new int[CHORD];
        final int[] alterations = new int[CHORD];

        boolean isRest() {
            return count == 0;
        }

        boolean has(int mark) {
            return (marks & mark) != 0;
        }

        int tone(int k) {
            return naturalTone(steps[k]) + alterations[k];
        }

        /** False, and nothing is put in, if the step is there already or there is no room. */
        boolean insert(int step, int alteration) {
            if (count >= CHORD) {
                return false;
            }
            int at = count;
            for (int k = count - 1; k >= 0 && steps[k] >= step; k--) {
                at = k;
            }
            if (at < count && steps[at] == step) {
                return false;
            }
            for (int k = count; k > at; k--) {
                steps[k] = steps[k - 1];
                alterations[k] = alterations[k - 1];
            }
            steps[at] = step;
            alterations[at] = alteration;
            count++;
            return true;
        }

        boolean hasPitch(int step, int alteration) {
            for (int k = 0; k < count; k++) {
                if (steps[k] == step && alterations[k] == alteration) {
                    return true;
                }
            }
            return false;
        }

        /** A bit for each pitch that the other event has, too. */
        int sharedWith(Event other) {
            int bits = 0;
            for (int k = 0; k < count; k++) {
                bits |= other.hasPitch(steps[k], alterations[k]) ? 1 << k : 0;
            }
            return bits;
        }

        /** The pitch of the highest tone, of several the highest step; NONE of a rest. */
        int top() {
            int best = NONE;
            for (int k = 0; k < count; k++) {
                if (best == NONE || tone(k) >= tone(best)) {
                    best = k;
                }
            }
            return best;
        }

        int topStep() {
            int best = top();
            return best == NONE ? 0 : steps[best];
        }
    }

    /** A voice: its events, and the notes in which they are written. */
    private static final class Part {
        static final int NOTE_ROWS = 12;
        static final int EVENT = 0;
        static final int BAR = 1;
        static final int FORM = 4;
        static final int POINTS = 5;
        static final int HELD = 6;
        static final int ACCIDENTALS = 7;
        static final int LEDGERS = 8;
        static final int GROUP = 9;
        static final int BEAMS = 10;
        static final int STEM = 11;
        private static final int WHOLE_BAR = 9;
        private static final int[] LOWEST_LINES = {30, 18, 24, 22};

        long word;
        int clef;
        int number;
        int token;
        int root;
        final Event[] events = new Event[EVENTS];
        int eventCount;
        long endPlace;
        /** By what note() asks for; 2 and 3 are told from notePlaces. */
        final int[][] notes = new int[NOTE_ROWS][NOTES];
        final long[] notePlaces = new long[NOTES];
        int noteCount;
        private boolean tooManyNotes;
        private final int[] known = new int[STEPS];

        Part() {
            for (int i = 0; i < EVENTS; i++) {
                events[i] = new Event();
            }
        }

        void clear() {
            eventCount = 0;
            noteCount = 0;
            endPlace = 0;
        }

        /** Turns the events from one on: slurs begin where they ended, and a tie goes to the event before. */
        void turn(int from) {
            int low = from;
            for (int high = eventCount - 1; low < high; high--) {
                Event other = events[low];
                events[low] = events[high];
                events[high] = other;
                low++;
            }
            for (int i = from; i < eventCount; i++) {
                Event event = events[i];
                int marks = event.marks & ~(TIE | SLUR_BEGINS | SLUR_ENDS);
                marks |= event.has(SLUR_BEGINS) ? SLUR_ENDS : 0;
                marks |= event.has(SLUR_ENDS) ? SLUR_BEGINS : 0;
                marks |= i + 1 < eventCount && events[i + 1].has(TIE) ? TIE : 0;
                event.marks = marks;
            }
        }

        /** The fault of the events, once they are all made, and 16 * its place; 0 if there is none. */
        int judge(Piece piece) {
            if (eventCount == 0) {
                return 15 + 16 * token;
            }
            placeEvents();
            boolean open = false;
            for (int i = 0; i < eventCount; i++) {
                Event event = events[i];
                if (!bracketStands(i, piece.barLength())) {
                    return 13 + 16 * event.bracketPlace;
                }
                if (event.has(TIE) && tiedPitches(i) == 0) {
                    return 10 + 16 * event.token;
                }
                boolean left = open && !event.has(SLUR_ENDS);
                if (event.has(SLUR_ENDS) && !open || event.has(SLUR_BEGINS) && left) {
                    return 11 + 16 * event.token;
                }
                open = left || event.has(SLUR_BEGINS);
                event.slurred = open;
            }
            if (open) {
                return 11 + 16 * token;
            }
            writeNotes(piece);
            return tooManyNotes ? 14 + 16 * token : 0;
        }

        private void placeEvents() {
            endPlace = 0;
            for (int i = 0; i < eventCount; i++) {
                events[i].place = endPlace;
                endPlace += events[i].length;
            }
        }

        /** Asked at the first event of a bracket, for all of them. */
        private boolean bracketStands(int i, long bar) {
            int bracket = events[i].bracket;
            if (bracket == 0 || i > 0 && events[i - 1].bracket == bracket || bar <= 0) {
                return true;
            }
            long from = events[i].place;
            long to = from;
            for (int j = i; j < eventCount && events[j].bracket == bracket; j++) {
                to += events[j].length;
            }
            return from / bar == (to - 1) / bar && (to - from) % (WHOLE / 128) == 0;
        }

        /** A bit for each pitch of an event that its tie holds into the next one. */
        int tiedPitches(int i) {
            if (i < 0 || i + 1 >= eventCount || !events[i].has(TIE)) {
                return 0;
            }
            return events[i].sharedWith(events[i + 1]);
        }

        boolean isTiedFrom(int i, int k) {
            Event event = events[i];
            return i > 0 && events[i - 1].has(TIE) && events[i - 1].hasPitch(event.steps[k], event.alterations[k]);
        }

        private void writeNotes(Piece piece) {
            noteCount = 0;
            tooManyNotes = false;
            for (int i = 0; i < eventCount && !tooManyNotes; i++) {
                cut(piece, i, events[i].place, events[i].length);
            }
            long bar = piece.barLength();
            long over = bar > 0 ? endPlace % bar : 0;
            if (over != 0) {
                cut(piece, NONE, endPlace, bar - over);
            }
            if (!tooManyNotes) {
                hold();
                setAccidentals(piece.fifths);
                setLedgers();
                group(piece.beatLength());
                setStems();
            }
        }

        private void cut(Piece piece, int i, long from, long length) {
            long bar = piece.barLength();
            long at = from;
            long to = from + length;
            for (int n = 0; n <= BARS && at < to && bar > 0; n++) {
                int number = (int) (at / bar);
                long cutEnd = Math.min(to, (number + 1) * bar);
                boolean free = i != NONE && events[i].bracket != 0;
                if (free) {
                    writeTuplet(i, number, at - number * bar);
                } else if ((i == NONE || events[i].isRest()) && cutEnd - at == bar) {
                    addNote(i, number, 0, 3 * WHOLE_BAR + 2);
                } else {
                    writeCut(piece, i, at, cutEnd - at);
                }
                at = cutEnd;
            }
        }

        /** Outside brackets all is a multiple of 1/128, so that the fine unit tells it exactly. */
        private void writeCut(Piece piece, int i, long at, long length) {
            long unit = WHOLE / FINE;
            long bar = piece.barLength();
            int number = (int) (at / bar);
            int from = (int) ((at - number * bar) / unit);
            int left = (int) (length / unit);
            for (int n = 0; n < NOTES && left > 0 && !tooManyNotes; n++) {
                int value = nextValue(piece.above, piece.below, from, left);
                addNote(i, number, from * unit, value);
                from += fineValue(value);
                left -= fineValue(value);
            }
        }

        /** An event in a bracket is written as it was told: the bracket's factor touches places alone. */
        private void writeTuplet(int i, int number, long from) {
            Event event = events[i];
            long at = from;
            int left = event.value * (FINE / 128);
            for (int n = 0; n < NOTES && left > 0 && !tooManyNotes; n++) {
                int value = greatestValue(left);
                addNote(i, number, at, value);
                left -= fineValue(value);
                at += WHOLE / FINE * fineValue(value) / Math.max(event.tupletFirst, 1) * event.tupletSecond;
            }
        }

        private void addNote(int i, int bar, long place, int value) {
            if (noteCount >= NOTES) {
                tooManyNotes = true;
                return;
            }
            int at = noteCount;
            notes[EVENT][at] = i;
            notes[BAR][at] = bar;
            notePlaces[at] = place;
            notes[FORM][at] = value / 3;
            notes[POINTS][at] = 2 - value % 3;
            noteCount++;
        }

        private boolean isRestNote(int note) {
            int i = notes[EVENT][note];
            return i < 0 || i >= eventCount || events[i].count == 0;
        }

        private boolean continues(int note) {
            return note > 0 && note < noteCount && notes[EVENT][note] == notes[EVENT][note - 1];
        }

        private void hold() {
            for (int note = 0; note < noteCount; note++) {
                int i = notes[EVENT][note];
                if (isRestNote(note)) {
                    notes[HELD][note] = 0;
                } else if (continues(note + 1)) {
                    notes[HELD][note] = (1 << events[i].count) - 1;
                } else {
                    notes[HELD][note] = tiedPitches(i);
                }
            }
        }

        private void setAccidentals(int fifths) {
            int bar = NONE;
            for (int note = 0; note < noteCount; note++) {
                if (notes[BAR][note] != bar) {
                    bar = notes[BAR][note];
                    for (int step = 0; step < STEPS; step++) {
                        known[step] = keyAlteration(fifths, step % 7);
                    }
                }
                boolean fresh = !isRestNote(note) && !continues(note);
                notes[ACCIDENTALS][note] = fresh ? accidentalsOf(notes[EVENT][note]) : 0;
            }
        }

        private int accidentalsOf(int i) {
            Event event = events[i];
            int bits = 0;
            for (int k = 0; k < event.count; k++) {
                int step = event.steps[k];
                if (!isTiedFrom(i, k) && known[step] != event.alterations[k]) {
                    bits |= 1 << k;
                    known[step] = event.alterations[k];
                }
            }
            return bits;
        }

        private int leastHeight(int note) {
            return events[notes[EVENT][note]].steps[0] - LOWEST_LINES[clef];
        }

        private int greatestHeight(int note) {
            Event event = events[notes[EVENT][note]];
            return event.steps[Math.max(event.count - 1, 0)] - LOWEST_LINES[clef];
        }

        private void setLedgers() {
            for (int note = 0; note < noteCount; note++) {
                int ledgers = 0;
                if (!isRestNote(note)) {
                    ledgers += Math.max(greatestHeight(note) - 8, 0) / 2;
                    ledgers += Math.max(-leastHeight(note), 0) / 2;
                }
                notes[LEDGERS][note] = ledgers;
            }
        }

        private boolean isBeamed(int note) {
            return !isRestNote(note) && notes[FORM][note] >= 3;
        }

        private boolean beamsWith(int note, int other, long beat) {
            return other < noteCount && isBeamed(other) && notes[BAR][note] == notes[BAR][other]
                && notePlaces[note] / beat == notePlaces[other] / beat;
        }

        private void group(long beat) {
            int groups = 0;
            int note = 0;
            for (int n = 0; n < NOTES && note < noteCount && beat > 0; n++) {
                int size = 1;
                while (isBeamed(note) && note + size < noteCount && beamsWith(note, note + size, beat)) {
                    size++;
                }
                for (int k = note; k < note + size; k++) {
                    boolean hasNext = k + 1 < note + size;
                    notes[GROUP][k] = size > 1 ? groups : NONE;
                    notes[BEAMS][k] = hasNext ? Math.min(notes[FORM][k], notes[FORM][k + 1]) - 2 : 0;
                }
                groups += size > 1 ? 1 : 0;
                note += size;
            }
        }

        private void setStems() {
            int note = 0;
            for (int n = 0; n < NOTES && note < noteCount; n++) {
                int size = 1;
                while (notes[GROUP][note] != NONE && note + size < noteCount
                    && notes[GROUP][note + size] == notes[GROUP][note]) {
                    size++;
                }
                int sum = 0;
                for (int k = note; k < note + size; k++) {
                    sum += isRestNote(k) ? 0 : leastHeight(k) + greatestHeight(k) - 8;
                }
                for (int k = note; k < note + size; k++) {
                    boolean bare = isRestNote(k) || notes[FORM][k] == 0;
                    notes[STEM][k] = bare ? 0 : sum < 0 ? 1 : 2;
                }
                note += size;
            }
        }

        int firstSounding() {
            for (int i = 0; i < eventCount; i++) {
                if (!events[i].isRest()) {
                    return i;
                }
            }
            return NONE;
        }

        /** For how many events this voice from j on follows another one from i on. */
        int followedFor(Part ahead, int i, int j) {
            if (events[j].place <= ahead.events[i].place) {
                return 0;
            }
            int apart = events[j].topStep() - ahead.events[i].topStep();
            int length = 0;
            while (i + length < ahead.eventCount && j + length < eventCount) {
                Event one = ahead.events[i + length];
                Event other = events[j + length];
                boolean alike = one.isRest() == other.isRest() && one.length == other.length;
                if (!alike || !one.isRest() && other.topStep() - one.topStep() != apart) {
                    return length;
                }
                length++;
            }
            return length;
        }

        boolean hasShape(int j, Part model, int i, int n, int kind) {
            boolean mirrored = (kind & 1) != 0;
            boolean backwards = (kind & 2) != 0;
            boolean scaled = (kind & 4) != 0;
            Event firstModel = model.events[i];
            Event first = events[backwards ? j + n - 1 : j];
            Event heldModel = null;
            Event held = null;
            for (int k = 0; k < n; k++) {
                Event one = model.events[i + k];
                Event other = events[backwards ? j + n - 1 - k : j + k];
                boolean right = scaled ? sameFraction(firstModel, first, one, other) : one.length == other.length;
                if (!right || one.isRest() != other.isRest()) {
                    return false;
                }
                if (held == null && !one.isRest()) {
                    heldModel = one;
                    held = other;
                }
                if (held != null && heldModel != null && !one.isRest()) {
                    int gone = one.topStep() - heldModel.topStep();
                    if (other.topStep() - held.topStep() != (mirrored ? -gone : gone)) {
                        return false;
                    }
                }
            }
            return true;
        }

        /** Lengths are compared in lowest terms: their products could have no room. */
        private static boolean sameFraction(Event a, Event b, Event c, Event d) {
            long one = Math.max(gcd(a.length, b.length), 1);
            long other = Math.max(gcd(c.length, d.length), 1);
            return a.length / one == c.length / other && b.length / one == d.length / other;
        }
    }

    /** A piece: what its head tells, its voices, and what is made of them when it is asked for. */
    private static final class Piece {
        final Part[] parts = new Part[PARTS];
        int partCount;
        int fifths;
        int minor;
        int above;
        int below;
        int tempo;
        int bars;
        Layout layout;
        Performance performance;
        boolean performed;
        private boolean sounded;
        private Study study;
        private boolean studied;

        void clear() {
            partCount = 0;
            fifths = 0;
            minor = 0;
            above = 4;
            below = 4;
            tempo = 120;
            bars = 0;
            performed = false;
            sounded = false;
            studied = false;
            if (layout != null) {
                layout.lineCount = 0;
            }
        }

        Part newPart() {
            int at = Math.min(partCount, PARTS - 1);
            if (parts[at] == null) {
                parts[at] = new Part();
            }
            parts[at].clear();
            partCount = at + 1;
            return parts[at];
        }

        boolean hasPartNamed(long word) {
            for (int v = 0; v < partCount; v++) {
                if (parts[v].word == word) {
                    return true;
                }
            }
            return false;
        }

        long barLength() {
            return WHOLE / Math.max(below, 1) * above;
        }

        long beatLength() {
            return WHOLE / Math.max(below, 1) * beatCount(above, below);
        }

        /** The fault of voices that come to different places; then the bars are known, too. */
        int judgeEnds() {
            for (int v = 1; v < partCount; v++) {
                if (parts[v].endPlace != parts[0].endPlace) {
                    return 6 + 16 * parts[v].token;
                }
            }
            long bar = Math.max(barLength(), 1);
            bars = (int) ((parts[0].endPlace + bar - 1) / bar);
            return 0;
        }

        Performance soundsMade() {
            if (performance == null) {
                performance = new Performance();
            }
            if (!sounded) {
                performance.gather(this);
                sounded = true;
            }
            return performance;
        }

        Study studyMade() {
            if (study == null) {
                study = new Study();
            }
            if (!studied) {
                study.lookThrough(this);
                studied = true;
            }
            return study;
        }
    }

    /** The columns of a piece and the lines into which its bars are parted. */
    private static final class Layout {
        private static final int COLUMNS = PARTS * NOTES;
        private static final long DEAREST = 1L << 60;

        int lineCount;
        private final long[] columnPlaces = new long[COLUMNS];
        private final int[] columnWidths = new int[COLUMNS];
        private final int[] columnXs = new int[COLUMNS];
        private int columns;
        private final int[] barFirsts = new int[BARS + 1];
        private final int[] barWidths = new int[BARS];
        private final int[] lineFirsts = new int[BARS + 1];
        private final int[] lineWidths = new int[BARS];
        private final long[] linePrices = new long[BARS];
        private final long[] best = new long[BARS + 1];
        private final int[] breaks = new int[BARS + 1];
        private final int[] nexts = new int[PARTS];

        int breakLines(Piece piece, int width) {
            int bars = Math.min(piece.bars, BARS);
            setColumns(piece, bars);
            choose(piece, bars, width);
            lineCount = 0;
            int bar = 0;
            for (int n = 0; n < BARS && bar < bars; n++) {
                lineFirsts[lineCount] = bar;
                lineWidths[lineCount] = widthOf(piece, bar, breaks[bar]);
                linePrices[lineCount] = best[bar] - best[breaks[bar]];
                bar = breaks[bar];
                lineCount++;
            }
            lineFirsts[lineCount] = bars;
            for (int l = 0; l < lineCount; l++) {
                setXs(piece, l, width);
            }
            return lineCount;
        }

        private void setColumns(Piece piece, int bars) {
            columns = 0;
            for (int v = 0; v < PARTS; v++) {
                nexts[v] = 0;
            }
            for (int bar = 0; bar < bars; bar++) {
                barFirsts[bar] = columns;
                for (int n = 0; n < COLUMNS && addColumn(piece, bar); n++) {
                    columns++;
                }
                widen(barFirsts[bar], piece.barLength());
                barWidths[bar] = 6;
                for (int c = barFirsts[bar]; c < columns; c++) {
                    barWidths[bar] += columnWidths[c];
                }
            }
            barFirsts[bars] = columns;
        }

        /** Puts the next column of a bar behind the others, as wide as its signs; false if there is none more. */
        private boolean addColumn(Piece piece, int bar) {
            long place = nextPlace(piece, bar);
            if (place < 0 || columns >= COLUMNS) {
                return false;
            }
            int sign = 0;
            int points = 0;
            for (int v = 0; v < piece.partCount; v++) {
                Part part = piece.parts[v];
                int note = nexts[v];
                if (beginsIn(part, note, bar) && part.notePlaces[note] == place) {
                    sign = part.notes[Part.ACCIDENTALS][note] != 0 ? 6 : sign;
                    points = Math.max(points, part.notes[Part.POINTS][note]);
                    nexts[v]++;
                }
            }
            columnPlaces[columns] = place;
            columnWidths[columns] = 8 + sign + 3 * points;
            return true;
        }

        private long nextPlace(Piece piece, int bar) {
            long place = NONE;
            for (int v = 0; v < piece.partCount; v++) {
                Part part = piece.parts[v];
                if (beginsIn(part, nexts[v], bar) && (place < 0 || part.notePlaces[nexts[v]] < place)) {
                    place = part.notePlaces[nexts[v]];
                }
            }
            return place;
        }

        private static boolean beginsIn(Part part, int note, int bar) {
            return note < part.noteCount && part.notes[Part.BAR][note] == bar;
        }

        /** What columns have for the time till the next one is known when the whole bar stands. */
        private void widen(int from, long bar) {
            for (int c = from; c < columns; c++) {
                long to = c + 1 < columns ? columnPlaces[c + 1] : bar;
                long left = (to - columnPlaces[c]) / (WHOLE / 128);
                for (int n = 0; n < 40 && left >= 2; n++) {
                    columnWidths[c] += 4;
                    left /= 2;
                }
            }
        }

        private static int lead(Piece piece, int bar) {
            return 24 + 5 * Math.abs(piece.fifths) + (bar == 0 ? 12 : 0);
        }

        private int widthOf(Piece piece, int from, int to) {
            int sum = lead(piece, from);
            for (int bar = from; bar < to; bar++) {
                sum += barWidths[bar];
            }
            return sum;
        }

        /** From the last bar backwards, so that of equal prices the longer line ahead can be taken. */
        private void choose(Piece piece, int bars, int width) {
            best[bars] = 0;
            for (int from = bars - 1; from >= 0; from--) {
                int sum = lead(piece, from);
                best[from] = DEAREST;
                for (int to = from + 1; to <= bars; to++) {
                    sum += barWidths[to - 1];
                    if (sum > width && to > from + 1) {
                        break;
                    }
                    long price = price(width, sum, to == bars) + best[to];
                    if (price <= best[from]) {
                        best[from] = price;
                        breaks[from] = to;
                    }
                }
            }
        }

        private static long price(long width, long sum, boolean last) {
            if (sum > width) {
                return 4 * (sum - width) * (sum - width);
            }
            return last ? 0 : (width - sum) * (width - sum);
        }

        private void setXs(Piece piece, int l, int width) {
            int at = lead(piece, lineFirsts[l]);
            int firstColumn = barFirsts[lineFirsts[l]];
            int all = Math.max(barFirsts[lineFirsts[l + 1]] - firstColumn, 1);
            int spare = l + 1 < lineCount ? Math.max(width - lineWidths[l], 0) : 0;
            for (int bar = lineFirsts[l]; bar < lineFirsts[l + 1]; bar++) {
                at += 6;
                for (int c = barFirsts[bar]; c < barFirsts[bar + 1]; c++) {
                    columnXs[c] = at + spare * (c - firstColumn) / all;
                    at += columnWidths[c];
                }
            }
        }

        long tell(int l, int what) {
            if (l < 0 || l >= lineCount) {
                return NONE;
            }
            switch (what) {
                case 0: return lineFirsts[l];
                case 1: return lineFirsts[l + 1] - lineFirsts[l];
                case 2: return lineWidths[l];
                case 3: return barFirsts[lineFirsts[l + 1]] - barFirsts[lineFirsts[l]];
                case 4: return linePrices[l];
                default: return NONE;
            }
        }

        int columnX(int bar, long place) {
            if (lineCount == 0 || bar < 0 || bar >= BARS) {
                return NONE;
            }
            for (int c = barFirsts[bar]; c < barFirsts[bar + 1]; c++) {
                if (columnPlaces[c] == place) {
                    return columnXs[c];
                }
            }
            return NONE;
        }
    }

    /** The sounds of a piece, their strokes, and the samples as they are played. */
    private static final class Performance {
        static final int PLAYED = 1000;
        private static final int SOUNDS = 2000;
        private static final int VOICE = 0;
        private static final int EVENT = 1;
        private static final int TONE = 2;
        private static final int FORCE = 3;
        private static final int FROM = 4;
        private static final int TO = 5;
        private static final int TRILL_TICKS = 12;
        private static final int FADE = 400;
        private static final int[] MAJOR_WEIGHTS = {635, 223, 348, 233, 438, 409, 252, 519, 239, 366, 229, 288};
        private static final int[] MINOR_WEIGHTS = {633, 268, 352, 538, 260, 353, 254, 475, 398, 269, 334, 317};
        private static final long[] TURNS = {2247346494L, 2380980670L, 2522561148L, 2672560440L, 2831479154L,
            2999847666L, 3178227890L, 3367215155L, 3567440188L, 3779571220L, 4004316221L, 4242425254L};
        private static final int[] INDEX_MOVES = {-1, -1, -1, -1, 2, 4, 6, 8};
        private static final int[] CODE_STEPS = {7, 8, 9, 10, 11, 12, 13, 14, 16, 17, 19, 21, 23, 25, 28, 31, 34,
            37, 41, 45, 50, 55, 60, 66, 73, 80, 88, 97, 107, 118, 130, 143, 157, 173, 190, 209, 230, 253, 279, 307,
            337, 371, 408, 449, 494, 544, 598, 658, 724, 796, 876, 963, 1060, 1166, 1282, 1411, 1552, 1707, 1878,
            2066, 2272, 2499, 2749, 3024, 3327, 3660, 4026, 4428, 4871, 5358, 5894, 6484, 7132, 7845, 8630, 9493,
            10442, 11487, 12635, 13899, 15289, 16818, 18500, 20350, 22385, 24623, 27086, 29794, 32767};

        int count;
        boolean tooMany;
        int made;
        int latest;
        final int[] heardRow = new int[PLAYED];
        final int[] codeRow = new int[PLAYED];
        private final int[] mix = new int[PLAYED];
        private final int[][] sounds = new int[6][SOUNDS];
        private long[] strokes = new long[2 * SOUNDS];
        private long[] otherStrokes = new long[2 * SOUNDS];
        private final long[] keyTicks = new long[12];
        private int heard;
        private int predicted;
        private int index;

        void gather(Piece piece) {
            count = 0;
            tooMany = false;
            latest = 0;
            for (int v = 0; v < piece.partCount; v++) {
                Part part = piece.parts[v];
                for (int i = 0; i < part.eventCount && !tooMany; i++) {
                    if (isTrilled(part, i)) {
                        trill(piece, v, i);
                    } else {
                        soundAll(part, v, i);
                    }
                }
            }
        }

        private static boolean isTrilled(Part part, int i) {
            Event event = part.events[i];
            return event.has(TRILL) && event.count == 1 && part.tiedPitches(i) == 0 && !part.isTiedFrom(i, 0);
        }

        private static int tick(long place) {
            return (int) (384 * place / WHOLE);
        }

        private static int force(Event event) {
            return Math.min(20 + 13 * event.loud + (event.has(ACCENT) ? 15 : 0), 127);
        }

        private void addSound(int v, int i, int tone, Event firstEvent, int from, int to) {
            if (count >= SOUNDS) {
                tooMany = true;
                return;
            }
            sounds[VOICE][count] = v;
            sounds[EVENT][count] = i;
            sounds[TONE][count] = tone;
            sounds[FORCE][count] = force(firstEvent);
            sounds[FROM][count] = from;
            sounds[TO][count] = to;
            count++;
        }

        private void soundAll(Part part, int v, int i) {
            Event event = part.events[i];
            int from = tick(event.place);
            for (int k = 0; k < event.count; k++) {
                if (!part.isTiedFrom(i, k)) {
                    Event last = part.events[lastTied(part, i, k)];
                    int length = tick(last.place + last.length) - from;
                    if (length > 0) {
                        addSound(v, i, event.tone(k), event, from, from + sounded(last, length));
                    }
                }
            }
        }

        private static int lastTied(Part part, int i, int k) {
            int step = part.events[i].steps[k];
            int alteration = part.events[i].alterations[k];
            int last = i;
            while (last + 1 < part.eventCount && part.events[last].has(TIE)
                && part.events[last + 1].hasPitch(step, alteration)) {
                last++;
            }
            return last;
        }

        private static int sounded(Event last, int length) {
            if (last.has(SHORT)) {
                return Math.max(1, length / 2);
            }
            return last.has(BROAD) || last.slurred ? length : length - length / 8;
        }

        private void trill(Piece piece, int v, int i) {
            Event event = piece.parts[v].events[i];
            int end = tick(event.place + event.length);
            int low = event.tone(0);
            int step = event.steps[0] + 1;
            int high = step < STEPS ? naturalTone(step) + keyAlteration(piece.fifths, step % 7) : low;
            boolean up = false;
            for (int from = tick(event.place); from < end && !tooMany; from += TRILL_TICKS) {
                addSound(v, i, up ? high : low, event, from, Math.min(from + TRILL_TICKS, end));
                up = !up;
            }
        }

        void begin() {
            made = 0;
            heard = 0;
            predicted = 0;
            index = 0;
            for (int i = 0; i < count; i++) {
                strokes[2 * i] = strokeKey(i, sounds[FROM][i], 1);
                strokes[2 * i + 1] = strokeKey(i, sounds[TO][i], 0);
            }
            sortStrokes();
        }

        /** All by which strokes are ordered in one number: tick, ends first, voice, tone, event. */
        private long strokeKey(int i, long tick, int begins) {
            long key = tick * 2 + begins;
            key = key << 2 | sounds[VOICE][i];
            key = key << 7 | sounds[TONE][i];
            key = key << 8 | sounds[EVENT][i];
            return key << 11 | i;
        }

        private void sortStrokes() {
            int all = 2 * count;
            for (int size = 1; size < all; size *= 2) {
                for (int from = 0; from < all; from += 2 * size) {
                    merge(from, Math.min(from + size, all), Math.min(from + 2 * size, all));
                }
                long[] sorted = otherStrokes;
                otherStrokes = strokes;
                strokes = sorted;
            }
        }

        private void merge(int from, int middle, int to) {
            int left = from;
            int right = middle;
            for (int at = from; at < to; at++) {
                boolean takeLeft = left < middle && (right >= to || strokes[left] <= strokes[right]);
                otherStrokes[at] = takeLeft ? strokes[left] : strokes[right];
                left += takeLeft ? 1 : 0;
                right += takeLeft ? 0 : 1;
            }
        }

        int strokeTold(int i, int what) {
            if (i < 0 || i >= 2 * count) {
                return NONE;
            }
            long key = strokes[i];
            switch (what) {
                case 0: return (int) (key >>> 29);
                case 1: return (int) (key >>> 26 & 3);
                case 2: return (int) (key >>> 19 & 127);
                case 3: return (key >>> 28 & 1) == 0 ? 0 : sounds[FORCE][(int) (key & 2047)];
                default: return NONE;
            }
        }

        int keyHeard() {
            if (tooMany || count == 0) {
                return NONE;
            }
            for (int n = 0; n < 12; n++) {
                keyTicks[n] = 0;
            }
            for (int i = 0; i < count; i++) {
                keyTicks[sounds[TONE][i] % 12] += sounds[TO][i] - sounds[FROM][i];
            }
            int heardKey = 0;
            long greatest = NONE;
            for (int key = 0; key < 24; key++) {
                long sum = 0;
                for (int n = 0; n < 12; n++) {
                    int above = Math.floorMod(n - key, 12);
                    sum += keyTicks[n] * (key < 12 ? MAJOR_WEIGHTS[above] : MINOR_WEIGHTS[above]);
                }
                if (sum > greatest) {
                    greatest = sum;
                    heardKey = key;
                }
            }
            return heardKey;
        }

        void write(Piece piece, ByteRow page) {
            page.putText("MThd");
            page.putWide(6, 4);
            page.putWide(1, 2);
            page.putWide(piece.partCount + 1, 2);
            page.putWide(96, 2);
            writeHead(piece, page);
            for (int v = 0; v < piece.partCount; v++) {
                writeVoice(piece.parts[v], v, page);
            }
        }

        private static int beginTrack(ByteRow page) {
            page.putText("MTrk");
            page.putWide(0, 4);
            return page.size;
        }

        private static void endTrack(ByteRow page, int from) {
            putMeta(page, 47, 0);
            page.setWide(from - 4, page.size - from);
        }

        private static void putMeta(ByteRow page, int sort, int size) {
            page.put(0);
            page.put(255);
            page.put(sort);
            page.put(size);
        }

        private static void writeHead(Piece piece, ByteRow page) {
            int from = beginTrack(page);
            putMeta(page, 88, 4);
            page.put(piece.above);
            page.put(Integer.bitCount(piece.below - 1));
            page.put(24);
            page.put(8);
            putMeta(page, 89, 2);
            page.put(piece.fifths);
            page.put(piece.minor);
            putMeta(page, 81, 3);
            page.putWide(60000000 / Math.max(piece.tempo, 1), 3);
            endTrack(page, from);
        }

        private void writeVoice(Part part, int v, ByteRow page) {
            int from = beginTrack(page);
            int size = 0;
            for (int n = 0; n < 8 && part.word >>> 8 * n != 0; n++) {
                size++;
            }
            putMeta(page, 3, size);
            for (int n = size - 1; n >= 0; n--) {
                page.put((int) (part.word >>> 8 * n));
            }
            page.put(0);
            page.put(192 + v);
            page.put(part.number);
            writeStrokes(v, page);
            endTrack(page, from);
        }

        private void writeStrokes(int v, ByteRow page) {
            int tick = 0;
            boolean begun = false;
            for (int i = 0; i < 2 * count; i++) {
                if (strokeTold(i, 1) == v) {
                    page.putDelta(strokeTold(i, 0) - tick);
                    tick = strokeTold(i, 0);
                    if (!begun) {
                        page.put(144 + v);
                    }
                    begun = true;
                    page.put(strokeTold(i, 2));
                    page.put(strokeTold(i, 3));
                }
            }
        }

        int playOn(Piece piece, int n) {
            for (int s = 0; s < n; s++) {
                mix[s] = 0;
            }
            for (int i = 0; i < count; i++) {
                mixSound(piece, i, n);
            }
            for (int s = 0; s < n; s++) {
                int m = Math.max(-32768, Math.min(32767, mix[s]));
                heard += (m - heard) / 2;
                heardRow[s] = heard;
                codeRow[s] = nextCode();
            }
            latest = n;
            made += n;
            return made;
        }

        private void mixSound(Piece piece, int i, int n) {
            long tempo = Math.max(piece.tempo, 1);
            int a = (int) (sounds[FROM][i] * 5000L / tempo);
            int z = (int) (sounds[TO][i] * 5000L / tempo);
            int from = Math.max(a, made);
            int to = Math.min(z + FADE, made + n);
            if (from >= to) {
                return;
            }
            int turn = (int) turn(sounds[TONE][i]);
            int number = piece.parts[sounds[VOICE][i]].number;
            // the phase modulo 2^32 is what an int keeps of it
            int phase = (from - a) * turn;
            for (int s = from; s < to; s++) {
                int wave = wave(number, phase >>> 24);
                mix[s - made] += wave * level(s - a, z - a) * sounds[FORCE][i] / 1024;
                phase += turn;
            }
        }

        private static long turn(int tone) {
            int octave = tone / 12;
            long turn = TURNS[tone % 12];
            return octave <= 9 ? turn >> 9 - octave : turn << octave - 9;
        }

        private static int wave(int number, int h) {
            int slope = h < 128 ? 2 * h - 128 : 383 - 2 * h;
            switch (number) {
                case 0: return h < 128 ? 96 : -96;
                case 1: return h - 128;
                case 2: return slope;
                default: return slope * (128 - Math.abs(slope)) / 32;
            }
        }

        private static int rise(int x) {
            return x < 40 ? 256 * x / 40 : Math.max(256 - (x - 40) / 16, 128);
        }

        private static int level(int x, int u) {
            return x < u ? rise(x) : rise(u) * (FADE - (x - u)) / FADE;
        }

        private int nextCode() {
            int step = CODE_STEPS[index];
            int left = heard - predicted;
            int code = left < 0 ? 8 : 0;
            left = Math.abs(left);
            int moved = step / 8;
            int part = step;
            for (int bit = 4; bit > 0; bit /= 2) {
                if (left >= part) {
                    code |= bit;
                    left -= part;
                    moved += part;
                }
                part = bit == 4 ? step / 2 : step / 4;
            }
            int next = code >= 8 ? predicted - moved : predicted + moved;
            predicted = Math.max(-32768, Math.min(32767, next));
            index = Math.max(0, Math.min(88, index + INDEX_MOVES[code & 7]));
            return code;
        }
    }

    /** A piece looked through: its moments, their chords, the faults between its parts. */
    private static final class Study {
        static final int FAULT_ROWS = 4;
        private static final int FAULTS = 300;
        private static final int MISSING = 99;
        /** Tones of the third, the fifth and the seventh above the root, in hundreds; 99: it is not there. */
        private static final int[] CHORD_TONES = {40799, 30799, 30699, 40899, 40710, 40711, 30710, 30610, 30609,
            30711, 49999, 39999, 49910, 49911, 39910, 39911};
        private static final int[] CHORD_KINDS = {0, 1, 2, 3, 4, 5, 6, 7, 8, 9, 0, 1, 4, 5, 6, 9};
        /** The lesser one of the tones that a step of so many letters may have; the other one is one more. */
        private static final int[] LEAST_TONES = {0, 1, 3, 5, 7, 8, 10};
        private static final int[] MOST_TONES = {0, 2, 4, 5, 7, 9, 11};

        int moments;
        final long[] places = new long[PARTS * EVENTS];
        int faults;
        final int[][] faultRows = new int[FAULT_ROWS][FAULTS];
        private final int[][] eventsAt = new int[PARTS][PARTS * EVENTS];
        /** Of each voice at the moment that is looked at and the one before; a tone of NONE: no line there. */
        private final int[] steps = new int[PARTS];
        private final int[] tones = new int[PARTS];
        private final int[] oldSteps = new int[PARTS];
        private final int[] oldTones = new int[PARTS];
        private final boolean[] begins = new boolean[PARTS];
        /** For each letter a bit for each alteration with which it sounds. */
        private final int[] letters = new int[7];

        void lookThrough(Piece piece) {
            findMoments(piece);
            faults = 0;
            for (int m = 0; m < moments && faults < FAULTS; m++) {
                takeLines(piece, m);
                if (m > 0) {
                    findFaults(piece.partCount, m);
                }
            }
        }

        private void findMoments(Piece piece) {
            moments = 0;
            for (int v = 0; v < PARTS; v++) {
                eventsAt[v][0] = NONE;
            }
            for (int m = 0; m < places.length; m++) {
                long place = nextPlace(piece, Math.max(m - 1, 0));
                if (place < 0) {
                    return;
                }
                places[m] = place;
                for (int v = 0; v < piece.partCount; v++) {
                    Part part = piece.parts[v];
                    int next = eventsAt[v][Math.max(m - 1, 0)] + 1;
                    boolean begun = next < part.eventCount && part.events[next].place == place;
                    eventsAt[v][m] = begun ? next : next - 1;
                }
                moments = m + 1;
            }
        }

        private long nextPlace(Piece piece, int m) {
            long place = NONE;
            for (int v = 0; v < piece.partCount; v++) {
                Part part = piece.parts[v];
                int next = eventsAt[v][m] + 1;
                if (next < part.eventCount && (place < 0 || part.events[next].place < place)) {
                    place = part.events[next].place;
                }
            }
            return place;
        }

        private Event eventOf(Piece piece, int v, int m) {
            int i = eventsAt[v][m];
            return i < 0 || i >= piece.parts[v].eventCount ? null : piece.parts[v].events[i];
        }

        private void takeLines(Piece piece, int m) {
            for (int v = 0; v < piece.partCount; v++) {
                Event event = eventOf(piece, v, m);
                oldSteps[v] = steps[v];
                oldTones[v] = tones[v];
                int top = event == null ? NONE : event.top();
                begins[v] = event != null && event.place == places[m];
                steps[v] = top == NONE ? NONE : event.steps[top];
                tones[v] = top == NONE ? NONE : event.tone(top);
            }
        }

        private void findFaults(int parts, int m) {
            for (int kind = 1; kind <= 4; kind++) {
                for (int u = 0; u < parts; u++) {
                    for (int v = u + 1; v < parts; v++) {
                        if (isFaultOfTwo(kind, u, v)) {
                            addFault(m, kind, u, v);
                        }
                    }
                }
            }
            for (int kind = 5; kind <= 6; kind++) {
                for (int u = 0; u < parts; u++) {
                    if (isFaultOfOne(kind, u)) {
                        addFault(m, kind, u, NONE);
                    }
                }
            }
        }

        private void addFault(int m, int kind, int u, int v) {
            if (faults >= FAULTS) {
                return;
            }
            faultRows[0][faults] = m;
            faultRows[1][faults] = kind;
            faultRows[2][faults] = u;
            faultRows[3][faults] = v;
            faults++;
        }

        private boolean isFaultOfTwo(int kind, int u, int v) {
            if (tones[u] == NONE || tones[v] == NONE) {
                return false;
            }
            boolean both = oldTones[u] != NONE && oldTones[v] != NONE;
            if (kind == 4) {
                return tones[v] > tones[u] && !(both && oldTones[v] > oldTones[u]);
            }
            boolean rise = tones[u] > oldTones[u] && tones[v] > oldTones[v];
            boolean fall = tones[u] < oldTones[u] && tones[v] < oldTones[v];
            if (!both || !begins[u] || !begins[v] || !rise && !fall) {
                return false;
            }
            int now = consonance(steps[u], tones[u], steps[v], tones[v]);
            int old = consonance(oldSteps[u], oldTones[u], oldSteps[v], oldTones[v]);
            if (kind < 3) {
                return now == kind && old == kind;
            }
            int higher = tones[v] > tones[u] ? v : u;
            return now != 0 && now != old && Math.abs(steps[higher] - oldSteps[higher]) > 2;
        }

        /** 1 for primes and octaves, 2 for fifths, 0 for all else. */
        private static int consonance(int stepU, int toneU, int stepV, int toneV) {
            boolean turned = toneV > toneU;
            int letters = Math.floorMod(turned ? stepV - stepU : stepU - stepV, 7);
            int tones = Math.abs(toneU - toneV) % 12;
            if (letters == 0 && tones == 0) {
                return 1;
            }
            return letters == 4 && tones == 7 ? 2 : 0;
        }

        private boolean isFaultOfOne(int kind, int u) {
            if (!begins[u] || tones[u] == NONE || oldTones[u] == NONE) {
                return false;
            }
            int gone = Math.abs(steps[u] - oldSteps[u]);
            if (kind == 5) {
                return gone > 7;
            }
            int upwards = steps[u] > oldSteps[u] ? tones[u] - oldTones[u] : oldTones[u] - tones[u];
            int between = gone == 0 ? Math.abs(upwards) : upwards;
            int size = Math.floorMod(between, 12);
            return size < LEAST_TONES[gone % 7] || size > MOST_TONES[gone % 7];
        }

        /** What is asked of a moment's chord: 2 its classes .. 8 whether it is foreign. */
        long chordTold(Piece piece, int m, int what) {
            takeClasses(piece, m);
            int classes = 0;
            int root = NONE;
            for (int letter = 0; letter < 7; letter++) {
                classes += Integer.bitCount(letters[letter]);
                root = chordKind(letter) != NONE ? letter : root;
            }
            if (what == 2) {
                return classes;
            }
            if (root == NONE) {
                return what == 3 ? NONE : 0;
            }
            switch (what) {
                case 3: return chordKind(root);
                case 4: return root;
                case 5: return alterationOf(root);
                case 6: return Math.floorMod(bassLetter(piece, m) - root, 7) / 2;
                case 7: return Math.floorMod(root - tonic(piece), 7);
                default: return isForeign(piece) ? 1 : 0;
            }
        }

        private void takeClasses(Piece piece, int m) {
            for (int letter = 0; letter < 7; letter++) {
                letters[letter] = 0;
            }
            for (int v = 0; v < piece.partCount; v++) {
                Event event = eventOf(piece, v, m);
                for (int k = 0; event != null && k < event.count; k++) {
                    letters[event.steps[k] % 7] |= 1 << event.alterations[k] + 2;
                }
            }
        }

        /** The alteration of a letter that has one class. */
        private int alterationOf(int letter) {
            return Integer.bitCount(letters[letter] - 1) - 2;
        }

        private int chordKind(int root) {
            for (int n = 0; n < 7; n++) {
                int most = n % 2 == 0 ? 1 : 0;
                if (Integer.bitCount(letters[(root + n) % 7]) > most) {
                    return NONE;
                }
            }
            if (letters[root] == 0) {
                return NONE;
            }
            int shape = 10000 * tonesAbove(root, 2) + 100 * tonesAbove(root, 4) + tonesAbove(root, 6);
            for (int n = 0; n < CHORD_TONES.length; n++) {
                if (CHORD_TONES[n] == shape) {
                    return CHORD_KINDS[n];
                }
            }
            return NONE;
        }

        private int tonesAbove(int root, int thirds) {
            int letter = (root + thirds) % 7;
            if (letters[letter] == 0) {
                return MISSING;
            }
            int tone = NATURAL_TONES[letter] + alterationOf(letter);
            return Math.floorMod(tone - NATURAL_TONES[root] - alterationOf(root), 12);
        }

        private int bassLetter(Piece piece, int m) {
            int bassTone = 1000;
            int bassStep = 0;
            for (int v = 0; v < piece.partCount; v++) {
                Event event = eventOf(piece, v, m);
                for (int k = 0; event != null && k < event.count; k++) {
                    int tone = event.tone(k);
                    if (tone < bassTone || tone == bassTone && event.steps[k] < bassStep) {
                        bassTone = tone;
                        bassStep = event.steps[k];
                    }
                }
            }
            return bassStep % 7;
        }

        private static int tonic(Piece piece) {
            return Math.floorMod(4 * piece.fifths + (piece.minor == 1 ? 5 : 0), 7);
        }

        private boolean isForeign(Piece piece) {
            for (int letter = 0; letter < 7; letter++) {
                int own = 1 << keyAlteration(piece.fifths, letter) + 2;
                if ((letters[letter] & ~own) != 0) {
                    return true;
                }
            }
            return false;
        }
    }

    /** A file of the common form, as it is opened. */
    private static final class SoundFile {
        static final int ROWS = 6;
        static final int SOUNDS_TOLD = 7;
        static final int TRACKS = 0;
        static final int DIVISION = 1;
        static final int FIFTHS = 2;
        static final int MINOR = 3;
        static final int ABOVE = 4;
        static final int BELOW = 5;
        static final int TEMPO = 6;
        static final int TRACK = 0;
        static final int CHANNEL = 1;
        static final int TONE = 2;
        static final int FORCE = 3;
        static final int FROM = 4;
        static final int TO = 5;
        private static final int SOUNDS = 400;
        private static final int MOST_TRACKS = 8;
        private static final long TRACK_CHUNK = 0x4d54726bL;

        final int[] head = new int[7];
        /** By what sound() asks for; an end of NONE: it sounds still. */
        final long[][] sounds = new long[ROWS][SOUNDS];
        int count;
        final int[] numbers = new int[MOST_TRACKS];
        private ByteRow row;
        private int at;
        private int limit;
        private int wrong;
        private int track;
        private int status;
        private long tick;
        private boolean trackDone;
        private boolean keyTold;
        private boolean timeTold;
        private boolean tempoTold;

        /** The fault of the file and 16 * its place; 0 if it has none. */
        int load(ByteRow tape) {
            row = tape;
            at = 0;
            limit = tape.size;
            wrong = 0;
            count = 0;
            setDefaults();
            loadHead();
            track = 0;
            for (int n = 0; n < TAPE_ROOM && wrong == 0 && track < head[TRACKS]; n++) {
                limit = tape.size;
                long sort = takeWide(4);
                long to = takeWide(4) + at;
                if (wrong == 0 && sort == TRACK_CHUNK) {
                    limit = (int) Math.min(to, tape.size);
                    loadTrack(to);
                    track++;
                }
                limit = tape.size;
                skip(to - at);
            }
            return wrong;
        }

        private void setDefaults() {
            head[TRACKS] = 0;
            head[DIVISION] = 0;
            head[FIFTHS] = 0;
            head[MINOR] = 0;
            head[ABOVE] = 4;
            head[BELOW] = 4;
            head[TEMPO] = 120;
            keyTold = false;
            timeTold = false;
            tempoTold = false;
            for (int n = 0; n < MOST_TRACKS; n++) {
                numbers[n] = NONE;
            }
        }

        private void refuse(int sort, int place) {
            if (wrong == 0) {
                wrong = sort + 16 * place;
            }
        }

        private int take() {
            if (at >= limit || row == null) {
                refuse(2, limit);
                return 0;
            }
            at++;
            return row.at(at - 1);
        }

        private void takeOnly(int least, int most) {
            int b = take();
            if (b < least || b > most) {
                refuse(1, at - 1);
            }
        }

        private long takeWide(int bytes) {
            long sum = 0;
            for (int n = 0; n < bytes; n++) {
                sum = sum * 256 + take();
            }
            return sum;
        }

        private int takeBounded(int bytes, long least, long most) {
            int from = at;
            long number = takeWide(bytes);
            if (number < least || number > most) {
                refuse(3, from);
                return 0;
            }
            return (int) number;
        }

        private int takeDelta() {
            int sum = 0;
            for (int n = 0; n < 4; n++) {
                int b = take();
                sum = sum * 128 + b % 128;
                if (b < 128) {
                    return sum;
                }
            }
            refuse(1, at - 1);
            return 0;
        }

        private int takeData() {
            int b = take();
            if (b >= 128) {
                refuse(1, at - 1);
            }
            return b;
        }

        private void skip(long bytes) {
            if (at + bytes > limit) {
                refuse(2, limit);
            } else if (wrong == 0) {
                at += (int) bytes;
            }
        }

        private void loadHead() {
            String mark = "MThd";
            for (int n = 0; n < mark.length(); n++) {
                takeOnly(mark.charAt(n), mark.charAt(n));
            }
            int from = at;
            long size = takeWide(4);
            if (size < 6) {
                refuse(3, from);
            }
            takeOnly(0, 0);
            takeOnly(0, 1);
            head[TRACKS] = takeBounded(2, 1, MOST_TRACKS);
            head[DIVISION] = takeBounded(2, 1, 960);
            skip(size - 6);
        }

        private void loadTrack(long to) {
            int firstSound = count;
            status = 0;
            tick = 0;
            trackDone = false;
            for (int n = 0; n < TAPE_ROOM && wrong == 0 && at < to && !trackDone; n++) {
                loadEvent(firstSound);
            }
            for (int i = firstSound; i < count; i++) {
                if (sounds[TO][i] == NONE) {
                    sounds[TO][i] = tick;
                }
            }
        }

        private void loadEvent(int firstSound) {
            tick += takeDelta();
            int from = at;
            int b = take();
            if (wrong != 0) {
                return;
            }
            if (b == 255) {
                status = 0;
                loadMeta();
            } else if (b == 240 || b == 247) {
                status = 0;
                skip(takeDelta());
            } else if (b >= 240 || b < 128 && status == 0) {
                refuse(1, from);
            } else {
                int data = b;
                if (b >= 128) {
                    status = b;
                    data = takeData();
                }
                loadMessage(data, from, firstSound);
            }
        }

        private void loadMessage(int data, int from, int firstSound) {
            int sort = status / 16;
            if (sort == 12 || sort == 13) {
                if (wrong == 0 && sort == 12 && numbers[track] == NONE) {
                    numbers[track] = data % 4;
                }
                return;
            }
            int force = takeData();
            if (wrong != 0) {
                return;
            }
            if (sort == 9 && force > 0) {
                beginSound(data, force, from);
            } else if (sort == 8 || sort == 9) {
                endSound(data, firstSound);
            }
        }

        private void beginSound(int tone, int force, int from) {
            if (count >= SOUNDS) {
                refuse(3, from);
                return;
            }
            sounds[TRACK][count] = track;
            sounds[CHANNEL][count] = status % 16;
            sounds[TONE][count] = tone;
            sounds[FORCE][count] = force;
            sounds[FROM][count] = tick;
            sounds[TO][count] = NONE;
            count++;
        }

        private void endSound(int tone, int firstSound) {
            for (int i = firstSound; i < count; i++) {
                boolean meant = sounds[TONE][i] == tone && sounds[CHANNEL][i] == status % 16;
                if (meant && sounds[TO][i] == NONE) {
                    sounds[TO][i] = tick;
                    return;
                }
            }
        }

        private void loadMeta() {
            int sort = takeData();
            int size = takeDelta();
            int from = at;
            skip(size);
            if (wrong != 0 || row == null) {
                return;
            }
            int one = row.at(from);
            int two = row.at(from + 1);
            if (sort == 88 && size >= 4) {
                tellTime(one, two);
            } else if (sort == 89 && size >= 2) {
                tellKey((byte) one, two);
            } else if (sort == 81 && size == 3) {
                tellTempo(65536 * one + 256 * two + row.at(from + 2));
            }
            trackDone = sort == 47;
        }

        private void tellTime(int above, int power) {
            if (!timeTold && above >= 1 && above <= 12 && power >= 1 && power <= 4) {
                head[ABOVE] = above;
                head[BELOW] = 1 << power;
                timeTold = true;
            }
        }

        private void tellKey(int fifths, int minor) {
            if (!keyTold && Math.abs(fifths) <= 7 && minor <= 1) {
                head[FIFTHS] = fifths;
                head[MINOR] = minor;
                keyTold = true;
            }
        }

        private void tellTempo(int number) {
            if (!tempoTold) {
                head[TEMPO] = number < 1 ? 300 : Math.max(20, Math.min(300, 60000000 / number));
                tempoTold = true;
            }
        }
    }

    /** Writes the sounds of a file down as a text. */
    private static final class Scribe {
        private static final String LETTERS = "cdefgab";

        private SoundFile source;
        private ByteRow page;
        private int grid;
        private int bar;
        private final Event event = new Event();
        /** Of the event that was gathered latest: where it begins and ends, and the sound behind it. */
        private long from;
        private long to;
        private int next;
        private final boolean[] hasTone = new boolean[128];

        /** How many bytes; TOO_MANY if it has no room, and then nothing is written. */
        int writeDown(SoundFile file, int g, ByteRow out) {
            source = file;
            page = out;
            grid = Math.max(g, 1);
            bar = FINE / Math.max(file.head[SoundFile.BELOW], 1) * file.head[SoundFile.ABOVE];
            page.clear();
            long last = lastPlace() * (FINE / grid);
            if (last > (long) BARS * bar) {
                return TOO_MANY;
            }
            writeHead();
            int voices = 0;
            for (int first = 0; first < file.count && voices < PARTS; first = trackEnd(first)) {
                writeVoice(first, voices, (int) last);
                voices++;
            }
            if (page.full || page.size > TAPE_ROOM) {
                page.clear();
                return TOO_MANY;
            }
            return page.size;
        }

        /** The first sound behind those of the track of a sound. */
        private int trackEnd(int first) {
            long[] tracks = source.sounds[SoundFile.TRACK];
            int behind = first;
            while (behind < source.count && tracks[behind] == tracks[first]) {
                behind++;
            }
            return behind;
        }

        private long gridPlace(long tick) {
            long division = Math.max(source.head[SoundFile.DIVISION], 1);
            return (2 * tick * grid + 4 * division) / (8 * division);
        }

        private long lastPlace() {
            long last = 0;
            int voices = 0;
            for (int first = 0; first < source.count && voices < PARTS; first = trackEnd(first)) {
                int end = trackEnd(first);
                next = first;
                for (int n = 0; n < source.count && next < end; n++) {
                    gatherEvent(next, end);
                }
                last = Math.max(last, to);
                voices++;
            }
            return last;
        }

        /** Sounds of a track stand in the order in which they begin, so those of one place stand together. */
        private void gatherEvent(int first, int end) {
            from = gridPlace(source.sounds[SoundFile.FROM][first]);
            to = from + 1;
            next = first;
            for (int tone = 0; tone < hasTone.length; tone++) {
                hasTone[tone] = false;
            }
            while (next < end && gridPlace(source.sounds[SoundFile.FROM][next]) == from) {
                to = Math.max(to, gridPlace(source.sounds[SoundFile.TO][next]));
                hasTone[(int) source.sounds[SoundFile.TONE][next] & 127] = true;
                next++;
            }
            if (next < end) {
                to = Math.min(to, gridPlace(source.sounds[SoundFile.FROM][next]));
            }
        }

        private void spellEvent() {
            event.count = 0;
            int told = 0;
            for (int tone = 0; tone < hasTone.length && told < CHORD; tone++) {
                if (hasTone[tone]) {
                    told++;
                    spell(tone);
                }
            }
        }

        private void spell(int tone) {
            int lowest = source.head[SoundFile.FIFTHS] - 5;
            int fifth = lowest + Math.floorMod(7 * tone - lowest, 12);
            int letter = Math.floorMod(4 * fifth, 7);
            int alteration = Math.floorDiv(fifth + 1, 7);
            int octave = Math.floorDiv(tone - NATURAL_TONES[letter] - alteration, 12) - 1;
            if (octave >= 0 && octave <= 8) {
                event.insert(7 * octave + letter, alteration);
            }
        }

        private void writeHead() {
            int fifths = source.head[SoundFile.FIFTHS];
            page.putText(fifths < 0 ? "key -" : "key ");
            page.putDecimal(Math.abs(fifths));
            page.putText(source.head[SoundFile.MINOR] == 1 ? " minor\ntime " : " major\ntime ");
            page.putDecimal(source.head[SoundFile.ABOVE]);
            page.put('/');
            page.putDecimal(source.head[SoundFile.BELOW]);
            page.putText("\ntempo ");
            page.putDecimal(source.head[SoundFile.TEMPO]);
            page.put('\n');
        }

        private void writeVoice(int first, int voice, int last) {
            int end = trackEnd(first);
            long sum = 0;
            for (int i = first; i < end; i++) {
                sum += source.sounds[SoundFile.TONE][i];
            }
            page.putText("voice v");
            page.put('a' + voice);
            page.putText(sum >= 60L * (end - first) ? " treble " : " bass ");
            int number = source.numbers[(int) source.sounds[SoundFile.TRACK][first]];
            page.putDecimal(Math.max(number, 0));
            page.putText(" {\n");
            int unit = FINE / grid;
            int come = 0;
            next = first;
            for (int n = 0; n < source.count && next < end; n++) {
                gatherEvent(next, end);
                writeRest(come, (int) from * unit);
                spellEvent();
                writeSpan((int) from * unit, (int) to * unit);
                come = (int) to * unit;
            }
            writeRest(come, last);
            writeRest(last, (last + bar - 1) / Math.max(bar, 1) * bar);
            page.putText("}\n");
        }

        private void writeRest(int begin, int end) {
            event.count = 0;
            writeSpan(begin, end);
        }

        private void writeSpan(int begin, int end) {
            int at = begin;
            for (int n = 0; n < BARS * FINE && at < end && bar > 0; n++) {
                int left = Math.min(end - at, bar - at % bar);
                int value = nextValue(source.head[SoundFile.ABOVE], source.head[SoundFile.BELOW], at % bar, left);
                at += fineValue(value);
                writeNote(value, at < end);
                if (at % bar == 0) {
                    page.putText("|\n");
                }
            }
        }

        private void writeNote(int value, boolean goesOn) {
            if (event.isRest()) {
                page.put('r');
            }
            page.putText(event.count > 1 ? "<" : "");
            for (int k = 0; k < event.count; k++) {
                page.putText(k > 0 ? " " : "");
                writePitch(event.steps[k], event.alterations[k]);
            }
            page.putText(event.count > 1 ? ">:" : ":");
            page.putDecimal(1 << value / 3);
            for (int n = 0; n < 2 - value % 3; n++) {
                page.put('.');
            }
            page.putText(goesOn && !event.isRest() ? "~ " : " ");
        }

        private void writePitch(int step, int alteration) {
            page.put(LETTERS.charAt(Math.floorMod(step, 7)));
            for (int n = 0; n < Math.abs(alteration); n++) {
                page.put(alteration > 0 ? '#' : 'b');
            }
            page.put('0' + step / 7);
        }
    }
}
