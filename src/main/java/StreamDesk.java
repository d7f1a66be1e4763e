/**
 * A desk for streams of rows: a program says which sources and steps there are, rows are pushed
 * in, go through all steps at once, and all that was done can be done anew.
 */
public final class StreamDesk {

    private static final int MAX_TAPE = 1500;
    private static final int BYTES_FED = 20;
    private static final int MAX_STREAMS = 12;
    private static final int MAX_CHECKS = 8;
    private static final int MAX_COLUMNS = 6;
    private static final int MAX_ROWS = 200;
    private static final int MAX_HELD = 60;
    private static final int MAX_WINDOWS = 60;
    private static final int MAX_TIME = 1000000;
    private static final int MAX_LOG = 200;
    private static final int MAX_MARKS = 8;
    private static final int MAX_WORD = 8;
    private static final int MAX_DIGITS = 9;
    private static final int MAX_DEPTH = 8;
    private static final int MAX_EXPRESSION = 60;
    private static final int MAX_RANGE = 1000;

    private static final int ERROR_FORM = 1;
    private static final int ERROR_UNKNOWN = 2;
    private static final int ERROR_UNFIT = 3;
    private static final int ERROR_TOO_MANY = 4;
    private static final int ERROR_TAKEN = 5;
    private static final int ERROR_RANGE = 6;

    // What a stream is, by the document's numbers.
    private static final int KIND_SOURCE = 0;
    private static final int KIND_KEEP = 1;
    private static final int KIND_MAKE = 2;
    private static final int KIND_PICK = 3;
    private static final int KIND_MERGE = 4;
    private static final int KIND_JOIN = 5;
    private static final int KIND_FIRST = 6;
    private static final int KIND_WINDOW = 7;

    // Kinds of tokens. A symbol's kind is its byte, or both of its bytes as one number.
    private static final int END = 0;
    private static final int BAD = 1;
    private static final int NAME = 2;
    private static final int NUMBER = 3;
    private static final int LESS_EQUAL = '<' * 256 + '=';
    private static final int MORE_EQUAL = '>' * 256 + '=';
    private static final int UNEQUAL = '<' * 256 + '>';
    private static final String SYMBOLS = "(),:=+-*/%<>";

    // A keyword's kind is SOURCE and its place in KEYWORDS together.
    private static final String KEYWORDS = "source delay step keep where make with pick merge join on within first by window every late check else drop hold stop sum count least most last time and or not abs";
    private static final int KEYWORD_COUNT = 32;
    private static final int SOURCE = 128;
    private static final int DELAY = SOURCE + 1;
    private static final int STEP = SOURCE + 2;
    private static final int KEEP = SOURCE + 3;
    private static final int WHERE = SOURCE + 4;
    private static final int MAKE = SOURCE + 5;
    private static final int WITH = SOURCE + 6;
    private static final int PICK = SOURCE + 7;
    private static final int MERGE = SOURCE + 8;
    private static final int JOIN = SOURCE + 9;
    private static final int ON = SOURCE + 10;
    private static final int WITHIN = SOURCE + 11;
    private static final int FIRST = SOURCE + 12;
    private static final int BY = SOURCE + 13;
    private static final int WINDOW = SOURCE + 14;
    private static final int EVERY = SOURCE + 15;
    private static final int LATE = SOURCE + 16;
    private static final int CHECK = SOURCE + 17;
    private static final int ELSE = SOURCE + 18;
    private static final int DROP = SOURCE + 19;
    private static final int HOLD = SOURCE + 20;
    private static final int STOP = SOURCE + 21;
    private static final int SUM = SOURCE + 22;
    private static final int COUNT = SOURCE + 23;
    private static final int LEAST = SOURCE + 24;
    private static final int MOST = SOURCE + 25;
    private static final int LAST = SOURCE + 26;
    private static final int TIME = SOURCE + 27;
    private static final int AND = SOURCE + 28;
    private static final int OR = SOURCE + 29;
    private static final int NOT = SOURCE + 30;
    private static final int ABS = SOURCE + 31;

    // The operation of a "-" in front; all others bear the kind of their token.
    private static final int NEGATE = SOURCE + KEYWORD_COUNT;

    // What a name in a program stands for.
    private static final int NEW_STREAM = 0;
    private static final int NEW_COLUMN = 1;
    private static final int FIRST_INPUT = 2;
    private static final int SECOND_INPUT = 3;
    private static final int KEY = 4;
    private static final int PICKED = 5;

    // The word "begin", packed as Tokens packs words.
    private static final long BEGIN = 0x626567696EL;

    // The first two columns of a window are its key and its begin.
    private static final int FIRST_TOTAL = 2;
    private static final int MAX_TOTALS = MAX_COLUMNS - FIRST_TOTAL;

    private static final int REASON_LATE = -1;

    private static final int ENTRY_PUSH = 0;
    private static final int ENTRY_RELEASE = 1;
    private static final int ENTRY_DISCARD = 2;
    private static final int ENTRY_GO = 3;

    private final byte[] tape = new byte[MAX_TAPE];
    private int tapeLength;
    private final Tokens tokens = new Tokens();

    // Three programs go round: the one of now, the one ahead of it with the rows that it had at
    // its end, and one to compile into.
    private Program program = new Program();
    private Program earlier = new Program();
    private Program spare = new Program();
    private final Meaning meaning = new Meaning(spare);
    private final Parser parser = new Parser(tokens, meaning);
    private int errorPosition = -1;

    private final Engine engine = new Engine(program);
    private final Row nextRow = new Row();
    private final Entry[] log = new Entry[MAX_LOG];
    private int logCount;
    private final int[] marks = new int[MAX_MARKS];
    private int markCount;

    public StreamDesk() {
        for (int i = 0; i < log.length; i++) {
            log[i] = new Entry();
        }
    }

    // ---- programs

    public int feed(int a, int b, int c, int d, int e) throws IllegalStateException {
        if (tapeLength > MAX_TAPE - BYTES_FED) {
            throw new IllegalStateException();
        }
        appendBytes(a);
        appendBytes(b);
        appendBytes(c);
        appendBytes(d);
        appendBytes(e);
        return tapeLength;
    }

    public int trim(int n) throws IllegalArgumentException {
        if (n < 0 || n > tapeLength) {
            throw new IllegalArgumentException();
        }
        tapeLength = n;
        return n;
    }

    public int compile() {
        tokens.scan(tape, tapeLength);
        tapeLength = 0;
        meaning.begin(spare);
        int formAt = parser.parse();
        if (formAt >= 0) {
            errorPosition = formAt;
            return ERROR_FORM;
        }
        errorPosition = meaning.errorAt;
        if (meaning.error == 0) {
            takeSpareProgram();
        }
        return meaning.error;
    }

    public int errorAt() {
        return errorPosition;
    }

    public int find() {
        int found = program.streamNamed(wordOnTape());
        tapeLength = 0;
        return found;
    }

    public int count(int what) throws IndexOutOfBoundsException {
        switch (what) {
            case 0: return program.streamCount;
            case 1: return program.checkCount;
            case 2: return tapeLength;
            case 3: return logCount;
            case 4: return markCount;
            case 5: return engine.heldCount;
            default: throw new IndexOutOfBoundsException();
        }
    }

    public int stream(int stream, int what) throws IndexOutOfBoundsException {
        Stream asked = streamAt(stream);
        switch (what) {
            case 0: return asked.kind;
            case 1: return asked.width;
            case 2: return asked.inputs[0];
            case 3: return asked.inputs[1];
            default: throw new IndexOutOfBoundsException();
        }
    }

    // ---- rows

    public int value(long v) throws IllegalStateException {
        if (nextRow.width >= MAX_COLUMNS) {
            throw new IllegalStateException();
        }
        nextRow.append(v);
        return nextRow.width;
    }

    public int forget() {
        int forgotten = nextRow.width;
        nextRow.width = 0;
        return forgotten;
    }

    public int push(int source, int time) throws IndexOutOfBoundsException, IllegalArgumentException,
            IllegalStateException {
        Stream stream = streamAt(source);
        if (stream.kind != KIND_SOURCE || time < 0 || time > MAX_TIME || nextRow.width != stream.width) {
            throw new IllegalArgumentException();
        }
        if (engine.stopped) {
            throw new IllegalStateException();
        }
        Entry entry = newEntry(ENTRY_PUSH);
        entry.source = stream.name;
        entry.row.copyFrom(nextRow);
        entry.row.time = time;
        nextRow.width = 0;
        return rowsTakenBy(entry);
    }

    public int rows(int stream) throws IndexOutOfBoundsException {
        return streamAt(stream).table.count;
    }

    public long cell(int stream, int row, int column) throws IndexOutOfBoundsException {
        Table table = streamAt(stream).table;
        if (row < 0 || row >= table.count || column < -1 || column >= table.width) {
            throw new IndexOutOfBoundsException();
        }
        return column < 0 ? table.timeOf(row) : table.numberOf(row, column);
    }

    public int watermark(int stream) throws IndexOutOfBoundsException {
        return streamAt(stream).watermark;
    }

    public int windows(int stream, boolean isClosed) throws IndexOutOfBoundsException {
        return streamAt(stream).windows.countThose(isClosed);
    }

    // ---- held rows

    public int held(int held, int what) throws IndexOutOfBoundsException {
        Row row = heldRowAt(held);
        switch (what) {
            case 0: return row.stream;
            case 1: return row.reason;
            case 2: return row.time;
            default: throw new IndexOutOfBoundsException();
        }
    }

    public long heldValue(int held, int column) throws IndexOutOfBoundsException {
        Row row = heldRowAt(held);
        if (column < 0 || column >= row.width) {
            throw new IndexOutOfBoundsException();
        }
        return row.numberAt(column);
    }

    public int release(int held) throws IndexOutOfBoundsException, IllegalStateException {
        testHeldPlace(held);
        Entry entry = newEntry(ENTRY_RELEASE);
        entry.place = held;
        return rowsTakenBy(entry);
    }

    public int discard(int held) throws IndexOutOfBoundsException, IllegalStateException {
        int reason = heldRowAt(held).reason;
        Entry entry = newEntry(ENTRY_DISCARD);
        entry.place = held;
        engine.perform(entry);
        return reason;
    }

    public int broken(int check) throws IndexOutOfBoundsException {
        if (check < 0 || check >= program.checkCount) {
            throw new IndexOutOfBoundsException();
        }
        return program.checks[check].broken;
    }

    public int lost() {
        return engine.lost;
    }

    public boolean isStopped() {
        return engine.stopped;
    }

    public int go() throws IllegalStateException {
        if (!engine.stopped) {
            throw new IllegalStateException();
        }
        engine.perform(newEntry(ENTRY_GO));
        return engine.heldCount;
    }

    // ---- marks, and doing it anew

    public int mark() throws IllegalStateException {
        if (program.streamCount == 0 || markCount >= MAX_MARKS) {
            throw new IllegalStateException();
        }
        marks[markCount] = logCount;
        markCount++;
        return markCount - 1;
    }

    public int back(int mark) throws IndexOutOfBoundsException {
        if (mark < 0 || mark >= markCount) {
            throw new IndexOutOfBoundsException();
        }
        int gone = logCount - marks[mark];
        logCount = marks[mark];
        markCount = mark + 1;
        doLogAnew();
        return gone;
    }

    public int replay() throws IllegalStateException {
        if (program.streamCount == 0) {
            throw new IllegalStateException();
        }
        return doLogAnew();
    }

    public int changed(int stream) throws IndexOutOfBoundsException {
        Stream now = streamAt(stream);
        int before = earlier.streamNamed(now.name);
        if (before < 0 || before >= earlier.streamCount) {
            return now.table.count;
        }
        return now.table.countDifferences(earlier.streams[before].table);
    }

    public double taken() {
        int sourceRows = 0;
        for (int i = 0; i < program.streamCount; i++) {
            if (program.streams[i].kind == KIND_SOURCE) {
                sourceRows += program.streams[i].table.count;
            }
        }
        return engine.pushes == 0 ? 1.0 : (double) sourceRows / (double) engine.pushes;
    }

    public long digest() {
        long d = 281;
        for (int what = 0; what <= 5; what++) {
            d = d * 31 + count(what);
        }
        d = d * 31 + (engine.stopped ? 1 : 0);
        d = d * 31 + engine.lost;
        for (int i = 0; i < program.streamCount; i++) {
            d = d * 31 + program.streams[i].watermark;
            d = program.streams[i].table.mixedInto(d);
        }
        for (int i = 0; i < engine.heldCount; i++) {
            d = engine.held[i].mixedInto(d);
        }
        return d;
    }

    // ---- helpers of the face

    private void appendBytes(int number) {
        for (int shift = 24; shift >= 0; shift -= 8) {
            if (tapeLength < tape.length) {
                tape[tapeLength] = (byte) (number >> shift);
                tapeLength++;
            }
        }
    }

    /** The tape as a packed word; 0, which is no stream's name, if it is none. */
    private long wordOnTape() {
        if (tapeLength > MAX_WORD) {
            return 0;
        }
        long word = 0;
        for (int i = 0; i < tapeLength; i++) {
            if (!isWordByte(tape[i])) {
                return 0;
            }
            word = word << 8 | tape[i];
        }
        return word;
    }

    private void takeSpareProgram() {
        Program oldest = earlier;
        earlier = program;
        program = spare;
        spare = oldest;
        markCount = 0;
        engine.start(program);
    }

    private Stream streamAt(int stream) {
        if (stream < 0 || stream >= program.streamCount) {
            throw new IndexOutOfBoundsException();
        }
        return program.streams[stream];
    }

    private void testHeldPlace(int place) {
        if (place < 0 || place >= engine.heldCount) {
            throw new IndexOutOfBoundsException();
        }
    }

    private Row heldRowAt(int place) {
        testHeldPlace(place);
        return engine.held[place];
    }

    private Entry newEntry(int what) {
        if (logCount >= MAX_LOG) {
            throw new IllegalStateException();
        }
        Entry entry = log[logCount];
        logCount++;
        entry.what = what;
        return entry;
    }

    private int rowsTakenBy(Entry entry) {
        engine.perform(entry);
        engine.runSteps();
        return engine.taken;
    }

    /** Does the whole log anew, from a desk without rows; returns how many entries are skipped. */
    private int doLogAnew() {
        engine.start(program);
        int skipped = 0;
        for (int i = 0; i < logCount; i++) {
            if (engine.perform(log[i])) {
                engine.runSteps();
            } else {
                skipped++;
            }
        }
        return skipped;
    }

    private static boolean isLetter(int sign) {
        return sign >= 'a' && sign <= 'z';
    }

    private static boolean isDigit(int sign) {
        return sign >= '0' && sign <= '9';
    }

    private static boolean isWordByte(int sign) {
        return isLetter(sign) || isDigit(sign);
    }

    /** The tokens of a tape; behind them stands one that is its end. */
    private static final class Tokens {
        private final int[] kinds = new int[MAX_TAPE + 1];
        private final int[] starts = new int[MAX_TAPE + 1];
        // A number's value, or a word's bytes as one number, the first one highest.
        private final long[] values = new long[MAX_TAPE + 1];
        private final long[] keywords = new long[KEYWORD_COUNT];
        private int count;

        Tokens() {
            int place = 0;
            for (int i = 0; i < KEYWORDS.length(); i++) {
                char sign = KEYWORDS.charAt(i);
                if (sign == ' ') {
                    place++;
                } else if (place < keywords.length) {
                    keywords[place] = keywords[place] << 8 | sign;
                }
            }
        }

        void scan(byte[] tape, int length) {
            count = 0;
            int end = Math.min(length, tape.length);
            int tokenEnd = 0;
            for (int at = 0; at < end; at++) {
                if (at >= tokenEnd && tape[at] != ' ' && tape[at] != '\n') {
                    tokenEnd = scanToken(tape, end, at);
                }
            }
            addToken(END, end, 0);
        }

        /** Adds the token that begins there; returns where it ends. */
        private int scanToken(byte[] tape, int length, int at) {
            if (isLetter(tape[at])) {
                return scanWord(tape, length, at);
            }
            if (isDigit(tape[at])) {
                return scanNumber(tape, length, at);
            }
            int sign = tape[at] & 255;
            int following = at + 1 < length ? tape[at + 1] & 255 : 0;
            int pair = sign * 256 + following;
            if (pair == LESS_EQUAL || pair == MORE_EQUAL || pair == UNEQUAL) {
                addToken(pair, at, 0);
                return at + 2;
            }
            addToken(SYMBOLS.indexOf((char) sign) >= 0 ? sign : BAD, at, 0);
            return at + 1;
        }

        private int scanWord(byte[] tape, int length, int at) {
            int end = at;
            long word = 0;
            for (; end < length && isWordByte(tape[end]); end++) {
                word = word << 8 | tape[end];
            }
            int kind = NAME;
            for (int i = 0; i < keywords.length; i++) {
                if (keywords[i] == word) {
                    kind = SOURCE + i;
                }
            }
            addToken(end - at > MAX_WORD ? BAD : kind, at, word);
            return end;
        }

        private int scanNumber(byte[] tape, int length, int at) {
            int end = at;
            long number = 0;
            for (; end < length && isDigit(tape[end]); end++) {
                number = number * 10 + (tape[end] - '0');
            }
            addToken(end - at > MAX_DIGITS ? BAD : NUMBER, at, number);
            return end;
        }

        private void addToken(int kind, int start, long value) {
            if (count < kinds.length) {
                kinds[count] = kind;
                starts[count] = start;
                values[count] = value;
                count++;
            }
        }
    }

    /**
     * Looks at the form of a program, and tells its meaning what it comes by. Behind an error of
     * form the token that is looked at stays a bad one, so that all loops end.
     */
    private static final class Parser {
        private final Tokens tokens;
        private final Meaning meaning;
        private int failedAt;

        // The token that is looked at.
        private int index;
        private int kind;
        private int position;
        private long value;

        private int expressionTokens;

        Parser(Tokens tokens, Meaning meaning) {
            this.tokens = tokens;
            this.meaning = meaning;
        }

        /** Returns the position of the error of form; -1 if there is none. */
        int parse() {
            failedAt = -1;
            index = -1;
            advance();
            for (int i = 0; i < MAX_TAPE && failedAt < 0 && (i == 0 || kind != END); i++) {
                switch (kind) {
                    case SOURCE: source(); break;
                    case STEP: step(); break;
                    case CHECK: check(); break;
                    default: fail(); break;
                }
            }
            return failedAt;
        }

        private void source() {
            meaning.startStream(position);
            meaning.startWork(KIND_SOURCE, position);
            take(SOURCE);
            takeName(NEW_STREAM);
            takeNames(NEW_COLUMN);
            if (kind == DELAY) {
                takeRange(DELAY);
            }
            meaning.endStream();
        }

        private void check() {
            meaning.startCheck(position);
            take(CHECK);
            takeName(FIRST_INPUT);
            take(':');
            wholeExpression();
            take(ELSE);
            int fate = kind;
            if (fate == DROP || fate == HOLD || fate == STOP) {
                take(fate);
                meaning.endCheck(fate);
            } else {
                fail();
            }
        }

        private void step() {
            meaning.startStream(position);
            take(STEP);
            takeName(NEW_STREAM);
            take('=');
            int work = kind;
            if (kindOfWork(work) == KIND_SOURCE) {
                fail();
            }
            meaning.startWork(kindOfWork(work), position);
            take(work);
            takeName(FIRST_INPUT);
            switch (work) {
                case KEEP: take(WHERE); wholeExpression(); break;
                case MAKE: newColumns(); break;
                case PICK: takeNames(PICKED); break;
                case MERGE: secondInput(); break;
                case JOIN: secondInput(); take(ON); takeName(KEY); takeRange(WITHIN); break;
                case FIRST: take(BY); takeName(KEY); takeRange(WITHIN); break;
                case WINDOW: window(); break;
                default: break;
            }
            meaning.endStream();
        }

        /** The kind of stream that a work makes; KIND_SOURCE if the word begins no work. */
        private static int kindOfWork(int word) {
            switch (word) {
                case KEEP: return KIND_KEEP;
                case MAKE: return KIND_MAKE;
                case PICK: return KIND_PICK;
                case MERGE: return KIND_MERGE;
                case JOIN: return KIND_JOIN;
                case FIRST: return KIND_FIRST;
                case WINDOW: return KIND_WINDOW;
                default: return KIND_SOURCE;
            }
        }

        private void newColumns() {
            take(WITH);
            for (int i = 0; i < MAX_TAPE && (i == 0 || kind == ','); i++) {
                takeComma(i);
                takeName(NEW_COLUMN);
                take('=');
                wholeExpression();
            }
        }

        private void secondInput() {
            take(',');
            takeName(SECOND_INPUT);
        }

        private void window() {
            take(BY);
            takeName(KEY);
            takeRange(EVERY);
            if (kind == LATE) {
                takeRange(LATE);
            }
            take('(');
            for (int i = 0; i < MAX_TAPE && (i == 0 || kind == ','); i++) {
                takeComma(i);
                takeName(NEW_COLUMN);
                take('=');
                if (takeTotal() != COUNT) {
                    wholeExpression();
                }
            }
            take(')');
        }

        /** Takes the word that says what a total is, and returns it. */
        private int takeTotal() {
            int total = kind;
            if (total == COUNT || total == SUM || total == LEAST || total == MOST || total == LAST) {
                meaning.setTotal(total);
                take(total);
            } else {
                fail();
            }
            return total;
        }

        private void wholeExpression() {
            expressionTokens = 0;
            meaning.startExpression();
            expression(0);
            meaning.endExpression();
        }

        private void expression(int depth) {
            both(depth);
            for (int i = 0; i < MAX_EXPRESSION && kind == OR; i++) {
                takeInExpression(OR, depth);
                both(depth);
                meaning.emit(OR, 0);
            }
        }

        private void both(int depth) {
            relation(depth);
            for (int i = 0; i < MAX_EXPRESSION && kind == AND; i++) {
                takeInExpression(AND, depth);
                relation(depth);
                meaning.emit(AND, 0);
            }
        }

        private void relation(int depth) {
            sum(depth);
            int sign = kind;
            if (sign == '=' || sign == '<' || sign == '>' || sign == UNEQUAL || sign == LESS_EQUAL
                    || sign == MORE_EQUAL) {
                takeInExpression(sign, depth);
                sum(depth);
                meaning.emit(sign, 0);
            }
        }

        private void sum(int depth) {
            product(depth);
            for (int i = 0; i < MAX_EXPRESSION && (kind == '+' || kind == '-'); i++) {
                int sign = kind;
                takeInExpression(sign, depth);
                product(depth);
                meaning.emit(sign, 0);
            }
        }

        private void product(int depth) {
            factor(depth);
            for (int i = 0; i < MAX_EXPRESSION && (kind == '*' || kind == '/' || kind == '%'); i++) {
                int sign = kind;
                takeInExpression(sign, depth);
                factor(depth);
                meaning.emit(sign, 0);
            }
        }

        private void factor(int depth) {
            int sign = kind;
            switch (sign) {
                case NUMBER:
                case TIME:
                    meaning.emit(sign, value);
                    takeInExpression(sign, depth);
                    break;
                case NAME:
                    meaning.useColumn(value, position);
                    takeInExpression(sign, depth);
                    break;
                case '(':
                    if (takeInExpression('(', depth + 1)) {
                        expression(depth + 1);
                        takeInExpression(')', depth);
                    }
                    break;
                case '-':
                case NOT:
                    if (takeInExpression(sign, depth + 1)) {
                        factor(depth + 1);
                        meaning.emit(sign == '-' ? NEGATE : NOT, 0);
                    }
                    break;
                case ABS:
                case LEAST:
                case MOST:
                    function(sign, depth);
                    break;
                default:
                    fail();
                    break;
            }
        }

        private void function(int word, int depth) {
            int at = position;
            takeInExpression(word, depth);
            if (!takeInExpression('(', depth + 1)) {
                return;
            }
            expression(depth + 1);
            int arguments = 1;
            for (int i = 0; i < MAX_EXPRESSION && kind == ','; i++) {
                takeInExpression(',', depth + 1);
                expression(depth + 1);
                arguments++;
            }
            takeInExpression(')', depth);
            meaning.endFunction(word, arguments, at);
        }

        /** Takes a token of an expression, behind which the depth is as given, if it may be. */
        private boolean takeInExpression(int token, int depthBehind) {
            if (kind != token || expressionTokens >= MAX_EXPRESSION || depthBehind > MAX_DEPTH) {
                fail();
                return false;
            }
            expressionTokens++;
            advance();
            return true;
        }

        private void takeNames(int role) {
            take('(');
            for (int i = 0; i < MAX_TAPE && (i == 0 || kind == ','); i++) {
                takeComma(i);
                takeName(role);
            }
            take(')');
        }

        /** Takes the comma that stands ahead of each but the first one of a list. */
        private void takeComma(int place) {
            if (place > 0) {
                take(',');
            }
        }

        private void takeName(int role) {
            if (kind == NAME) {
                meaning.lookAtName(role, value, position);
            }
            take(NAME);
        }

        /** Takes a word and the number behind it. */
        private void takeRange(int word) {
            take(word);
            if (kind == NUMBER) {
                meaning.lookAtRange(word, value, position);
            }
            take(NUMBER);
        }

        private void take(int token) {
            if (kind == token) {
                advance();
            } else {
                fail();
            }
        }

        private void advance() {
            int next = index + 1;
            if (failedAt >= 0 || next < 0 || next >= tokens.count) {
                return;
            }
            index = next;
            kind = tokens.kinds[index];
            position = tokens.starts[index];
            value = tokens.values[index];
        }

        private void fail() {
            if (failedAt < 0) {
                failedAt = position;
            }
            kind = BAD;
        }
    }

    /**
     * Looks at the meaning of a program, in the order in which its parser comes by it, and makes
     * the program of it. Behind the first error it looks at nothing more.
     */
    private static final class Meaning {
        private int error;
        private int errorAt;
        private Program program;

        // Of the item that is looked at.
        private Stream stream;
        private Check check;
        private boolean isCheck;
        private Stream scope;
        private Stream other;
        private final long[] names = new long[MAX_TAPE];
        private int width;
        private int streamNameAt;
        private int workAt;
        private int secondInputAt;
        private int codeStart;

        Meaning(Program program) {
            this.program = program;
            stream = program.streams[0];
            scope = program.streams[0];
            other = program.streams[0];
            check = program.checks[0];
        }

        void begin(Program empty) {
            program = empty;
            program.streamCount = 0;
            program.checkCount = 0;
            program.codeLength = 0;
            error = 0;
            errorAt = -1;
        }

        void startStream(int at) {
            if (error != 0) {
                return;
            }
            isCheck = false;
            if (program.streamCount >= MAX_STREAMS) {
                report(ERROR_TOO_MANY, at);
                return;
            }
            stream = program.streams[program.streamCount];
            stream.clear();
            width = 0;
        }

        void startCheck(int at) {
            if (error != 0) {
                return;
            }
            isCheck = true;
            if (program.checkCount >= MAX_CHECKS) {
                report(ERROR_TOO_MANY, at);
                return;
            }
            check = program.checks[program.checkCount];
        }

        void startWork(int kind, int at) {
            if (error == 0) {
                stream.kind = kind;
                workAt = at;
            }
        }

        void lookAtName(int role, long word, int at) {
            if (error != 0) {
                return;
            }
            switch (role) {
                case NEW_STREAM: nameStream(word, at); break;
                case NEW_COLUMN: nameColumn(word, at); break;
                case FIRST_INPUT: setFirstInput(word, at); break;
                case SECOND_INPUT: setSecondInput(word, at); break;
                case KEY: setKey(word, at); break;
                case PICKED: pickColumn(word, at); break;
                default: break;
            }
        }

        void lookAtRange(int word, long number, int at) {
            if (error != 0) {
                return;
            }
            long least = word == EVERY ? 1 : 0;
            if (number < least || number > MAX_RANGE) {
                report(ERROR_RANGE, at);
            } else if (word == LATE) {
                stream.late = (int) number;
            } else {
                stream.span = (int) number;
            }
        }

        void setTotal(int total) {
            if (error == 0) {
                stream.setPart(width - 1, total);
            }
        }

        void startExpression() {
            codeStart = program.codeLength;
        }

        void endExpression() {
            if (error != 0) {
                return;
            }
            if (isCheck) {
                check.codeStart = codeStart;
                check.codeEnd = program.codeLength;
            } else {
                int column = stream.kind == KIND_KEEP ? 0 : width - 1;
                stream.setCode(column, codeStart, program.codeLength);
            }
        }

        void emit(int operation, long operand) {
            if (error == 0) {
                program.emit(operation, operand);
            }
        }

        void useColumn(long word, int at) {
            if (error != 0) {
                return;
            }
            int column = scope.columnNamed(word);
            if (column < 0) {
                report(ERROR_UNKNOWN, at);
            } else {
                program.emit(NAME, column);
            }
        }

        void endFunction(int word, int arguments, int at) {
            if (error != 0) {
                return;
            }
            if (arguments != (word == ABS ? 1 : 2)) {
                report(ERROR_UNFIT, at);
            } else {
                program.emit(word, 0);
            }
        }

        void endCheck(int fate) {
            if (error == 0) {
                check.fate = fate;
                program.checkCount++;
            }
        }

        void endStream() {
            if (error == 0 && stream.kind == KIND_MERGE && !scope.hasColumnsOf(other)) {
                report(ERROR_UNFIT, workAt);
            }
            if (error == 0 && stream.kind == KIND_JOIN) {
                addOtherColumns();
            }
            if (error == 0 && width > MAX_COLUMNS) {
                report(ERROR_TOO_MANY, streamNameAt);
            }
            if (error == 0) {
                stream.setColumns(names, width);
                program.streamCount++;
            }
        }

        private void nameStream(long word, int at) {
            if (program.streamNamed(word) >= 0) {
                report(ERROR_TAKEN, at);
            }
            stream.name = word;
            streamNameAt = at;
        }

        private void nameColumn(long word, int at) {
            if (!addColumn(word)) {
                report(ERROR_TAKEN, at);
            }
        }

        /** Adds a column, if no other one has its name; tells whether it was added. */
        private boolean addColumn(long word) {
            for (int i = 0; i < width && i < names.length; i++) {
                if (names[i] == word) {
                    return false;
                }
            }
            if (width < names.length) {
                names[width] = word;
                width++;
            }
            return true;
        }

        private void setFirstInput(long word, int at) {
            int found = program.streamNamed(word);
            if (found < 0) {
                report(ERROR_UNKNOWN, at);
                return;
            }
            scope = program.streams[found];
            if (isCheck) {
                check.stream = found;
                return;
            }
            stream.inputs[0] = found;
            if (stream.kind != KIND_PICK && stream.kind != KIND_WINDOW) {
                width = scope.copyColumns(names);
            }
        }

        private void setSecondInput(long word, int at) {
            int found = program.streamNamed(word);
            if (found < 0) {
                report(ERROR_UNKNOWN, at);
                return;
            }
            other = program.streams[found];
            stream.inputs[1] = found;
            secondInputAt = at;
        }

        private void setKey(long word, int at) {
            stream.key = scope.columnNamed(word);
            stream.otherKey = stream.kind == KIND_JOIN ? other.columnNamed(word) : stream.key;
            if (stream.key < 0 || stream.otherKey < 0) {
                report(ERROR_UNKNOWN, at);
            } else if (stream.kind == KIND_WINDOW && !(addColumn(word) && addColumn(BEGIN))) {
                report(ERROR_TAKEN, at);
            }
        }

        private void pickColumn(long word, int at) {
            int column = scope.columnNamed(word);
            if (column < 0) {
                report(ERROR_UNKNOWN, at);
            } else if (addColumn(word)) {
                stream.setPart(width - 1, column);
            } else {
                report(ERROR_TAKEN, at);
            }
        }

        private void addOtherColumns() {
            for (int i = 0; i < other.width; i++) {
                if (i != stream.otherKey && !addColumn(other.columnAt(i))) {
                    report(ERROR_TAKEN, secondInputAt);
                }
            }
        }

        private void report(int code, int at) {
            if (error == 0) {
                error = code;
                errorAt = at;
            }
        }
    }

    /** A compiled program: streams, checks, and the code of all their expressions. */
    private static final class Program {
        private final Stream[] streams = new Stream[MAX_STREAMS];
        private int streamCount;
        private final Check[] checks = new Check[MAX_CHECKS];
        private int checkCount;

        // Expressions in postfix order: no branch is needed, as no operation has an effect.
        private final int[] operations = new int[MAX_TAPE];
        private final long[] operands = new long[MAX_TAPE];
        private int codeLength;
        private final long[] stack = new long[MAX_EXPRESSION];

        Program() {
            for (int i = 0; i < streams.length; i++) {
                streams[i] = new Stream();
            }
            for (int i = 0; i < checks.length; i++) {
                checks[i] = new Check();
            }
        }

        /** The number of the stream; -1 if there is none. */
        int streamNamed(long name) {
            for (int i = 0; i < streamCount && i < streams.length; i++) {
                if (streams[i].name == name) {
                    return i;
                }
            }
            return -1;
        }

        void emit(int operation, long operand) {
            if (codeLength < operations.length) {
                operations[codeLength] = operation;
                operands[codeLength] = operand;
                codeLength++;
            }
        }

        /** The number that the code from start to end yields for a row. */
        long reckon(int start, int end, Row row) {
            int height = 0;
            for (int i = start; i >= 0 && i < end && i < codeLength; i++) {
                int operation = operations[i];
                if (operation == NUMBER || operation == NAME || operation == TIME) {
                    if (height < stack.length) {
                        stack[height] = operation == NAME ? row.numberAt((int) operands[i])
                                : operation == TIME ? row.time : operands[i];
                        height++;
                    }
                } else if (operation == NEGATE || operation == NOT || operation == ABS) {
                    if (height > 0) {
                        stack[height - 1] = unary(operation, stack[height - 1]);
                    }
                } else if (height > 1) {
                    height--;
                    stack[height - 1] = binary(operation, stack[height - 1], stack[height]);
                }
            }
            return height > 0 ? stack[0] : 0;
        }

        private static long unary(int operation, long x) {
            switch (operation) {
                case NEGATE: return -x;
                case NOT: return x == 0 ? 1 : 0;
                default: return x < 0 ? -x : x;
            }
        }

        private static long binary(int operation, long x, long y) {
            switch (operation) {
                case '+': return x + y;
                case '-': return x - y;
                case '*': return x * y;
                case '/': return y == 0 ? 0 : x / y;
                case '%': return y == 0 ? 0 : x % y;
                case '=': return x == y ? 1 : 0;
                case UNEQUAL: return x != y ? 1 : 0;
                case '<': return x < y ? 1 : 0;
                case '>': return x > y ? 1 : 0;
                case LESS_EQUAL: return x <= y ? 1 : 0;
                case MORE_EQUAL: return x >= y ? 1 : 0;
                case AND: return x != 0 && y != 0 ? 1 : 0;
                case OR: return x != 0 || y != 0 ? 1 : 0;
                case LEAST: return x < y ? x : y;
                case MOST: return x > y ? x : y;
                default: return 0;
            }
        }
    }

    private static final class Check {
        private int stream;
        private int fate;
        private int codeStart;
        private int codeEnd;
        private int broken;
    }

    /** A source or step: what the program says of it, and what it has come to. */
    private static final class Stream {
        private long name;
        private int kind;
        private int width;
        private final long[] columns = new long[MAX_COLUMNS];
        private final int[] inputs = new int[2];
        private int key;
        private int otherKey;
        // The number of delay, within or every.
        private int span;
        private int late;
        // By column: where the code of its expression is; that of a "keep" is at 0.
        private final int[] codeStarts = new int[MAX_COLUMNS];
        private final int[] codeEnds = new int[MAX_COLUMNS];
        // By column: the picked column of the input, or the word of a window's total.
        private final int[] parts = new int[MAX_COLUMNS];

        private final Table table = new Table();
        private int watermark;
        // By input: how many of its rows the step has looked at.
        private final int[] seen = new int[2];
        // By row of the input: whether a "first" gave it on.
        private final boolean[] given = new boolean[MAX_ROWS];
        private final Windows windows = new Windows();

        /** Forgets what an earlier program said of it. */
        void clear() {
            kind = KIND_SOURCE;
            inputs[0] = -1;
            inputs[1] = -1;
            key = 0;
            otherKey = 0;
            span = 0;
            late = 0;
        }

        void setColumns(long[] names, int count) {
            for (int i = 0; i < count && i < names.length && i < columns.length; i++) {
                columns[i] = names[i];
            }
            width = count;
        }

        /** Copies the names of the columns; returns how many there are. */
        int copyColumns(long[] names) {
            for (int i = 0; i < width && i < names.length && i < columns.length; i++) {
                names[i] = columns[i];
            }
            return width;
        }

        int columnNamed(long word) {
            for (int i = 0; i < width && i < columns.length; i++) {
                if (columns[i] == word) {
                    return i;
                }
            }
            return -1;
        }

        long columnAt(int column) {
            return column >= 0 && column < columns.length ? columns[column] : 0;
        }

        boolean hasColumnsOf(Stream that) {
            if (width != that.width) {
                return false;
            }
            for (int i = 0; i < width && i < columns.length; i++) {
                if (columns[i] != that.columns[i]) {
                    return false;
                }
            }
            return true;
        }

        void setPart(int column, int part) {
            if (column >= 0 && column < parts.length) {
                parts[column] = part;
            }
        }

        void setCode(int column, int start, int end) {
            if (column >= 0 && column < codeStarts.length) {
                codeStarts[column] = start;
                codeEnds[column] = end;
            }
        }

        void dropRows() {
            table.clear(width);
            watermark = -1;
            seen[0] = 0;
            seen[1] = 0;
            windows.clear();
        }
    }

    /** A row by itself: on its way, or in the log, or held for a reason. */
    private static final class Row {
        private int time;
        private int width;
        private final long[] numbers = new long[MAX_COLUMNS];
        private int stream;
        private int reason;

        void startAt(int newTime) {
            time = newTime;
            width = 0;
        }

        void append(long number) {
            if (width >= 0 && width < numbers.length) {
                numbers[width] = number;
                width++;
            }
        }

        long numberAt(int column) {
            return column >= 0 && column < numbers.length ? numbers[column] : 0;
        }

        void copyFrom(Row row) {
            time = row.time;
            width = row.width;
            for (int i = 0; i < numbers.length && i < row.numbers.length; i++) {
                numbers[i] = row.numbers[i];
            }
        }

        /** The checksum d, gone on with what a held row tells. */
        long mixedInto(long d) {
            long mixed = (d * 31 + stream) * 31 + reason;
            mixed = mixed * 31 + time;
            for (int i = 0; i < width; i++) {
                mixed = mixed * 31 + numberAt(i);
            }
            return mixed;
        }
    }

    /** The rows that a stream took. */
    private static final class Table {
        private int count;
        private int width;
        private final int[] times = new int[MAX_ROWS];
        private final long[] numbers = new long[MAX_ROWS * MAX_COLUMNS];

        void clear(int newWidth) {
            count = 0;
            width = newWidth;
        }

        /** Adds the row, if there is room; tells whether there was. */
        boolean add(Row row) {
            if (count >= times.length) {
                return false;
            }
            times[count] = row.time;
            for (int i = 0; i < row.numbers.length && i < MAX_COLUMNS; i++) {
                numbers[count * MAX_COLUMNS + i] = row.numbers[i];
            }
            count++;
            return true;
        }

        int timeOf(int row) {
            return row >= 0 && row < count ? times[row] : 0;
        }

        long numberOf(int row, int column) {
            if (row < 0 || row >= count || column < 0 || column >= width || column >= MAX_COLUMNS) {
                return 0;
            }
            return numbers[row * MAX_COLUMNS + column];
        }

        void copyTo(int row, Row copy) {
            copy.startAt(timeOf(row));
            for (int i = 0; i < width; i++) {
                copy.append(numberOf(row, i));
            }
        }

        /** At how many places only one of both tables has a row, or the rows are not the same. */
        int countDifferences(Table that) {
            int shorter = Math.min(count, that.count);
            int differences = Math.max(count, that.count) - shorter;
            for (int i = 0; i < shorter; i++) {
                if (!hasSameRow(that, i)) {
                    differences++;
                }
            }
            return differences;
        }

        private boolean hasSameRow(Table that, int row) {
            if (width != that.width || timeOf(row) != that.timeOf(row)) {
                return false;
            }
            for (int i = 0; i < width; i++) {
                if (numberOf(row, i) != that.numberOf(row, i)) {
                    return false;
                }
            }
            return true;
        }

        /** The checksum d, gone on with the number of rows and all rows. */
        long mixedInto(long d) {
            long mixed = d * 31 + count;
            for (int row = 0; row < count; row++) {
                mixed = mixed * 31 + timeOf(row);
                for (int i = 0; i < width; i++) {
                    mixed = mixed * 31 + numberOf(row, i);
                }
            }
            return mixed;
        }
    }

    /** The windows that a step has, in no order. */
    private static final class Windows {
        private int count;
        private final long[] keys = new long[MAX_WINDOWS];
        private final int[] ends = new int[MAX_WINDOWS];
        private final boolean[] closed = new boolean[MAX_WINDOWS];
        private final int[] sizes = new int[MAX_WINDOWS];
        private final long[] totals = new long[MAX_WINDOWS * MAX_TOTALS];

        void clear() {
            count = 0;
        }

        int countThose(boolean isClosed) {
            int found = 0;
            for (int i = 0; i < count && i < closed.length; i++) {
                if (closed[i] == isClosed) {
                    found++;
                }
            }
            return found;
        }

        /** The place of the window, which begins to be there if it is not; -1 without room. */
        int placeFor(long key, int end, boolean isClosed) {
            for (int i = 0; i < count && i < keys.length; i++) {
                if (keys[i] == key && ends[i] == end) {
                    return i;
                }
            }
            if (count >= keys.length) {
                return -1;
            }
            keys[count] = key;
            ends[count] = end;
            closed[count] = isClosed;
            sizes[count] = 0;
            count++;
            return count - 1;
        }

        void countRow(int place) {
            if (place >= 0 && place < count) {
                sizes[place]++;
            }
        }

        /** Adds the number of the row that was counted last. */
        void addTo(int place, int total, int word, long number) {
            if (place < 0 || place >= count || total < 0 || total >= MAX_TOTALS) {
                return;
            }
            int cell = place * MAX_TOTALS + total;
            long before = totals[cell];
            boolean isFirst = sizes[place] == 1;
            switch (word) {
                case COUNT: totals[cell] = sizes[place]; break;
                case SUM: totals[cell] = isFirst ? number : before + number; break;
                case LEAST: totals[cell] = isFirst || number < before ? number : before; break;
                case MOST: totals[cell] = isFirst || number > before ? number : before; break;
                default: totals[cell] = number; break;
            }
        }

        /** Makes the row of a window. */
        void copyTo(int place, int span, int totalCount, Row copy) {
            if (place < 0 || place >= count) {
                return;
            }
            copy.startAt(ends[place]);
            copy.append(keys[place]);
            copy.append(ends[place] - span);
            for (int i = 0; i < totalCount && i < MAX_TOTALS; i++) {
                copy.append(totals[place * MAX_TOTALS + i]);
            }
        }

        /** Closes the window that is the next one to be closed; returns its place, -1 without. */
        int closeNext(int watermark) {
            int next = -1;
            for (int i = 0; i < count && i < keys.length; i++) {
                if (!closed[i] && ends[i] <= watermark && (next < 0 || isAhead(i, next))) {
                    next = i;
                }
            }
            if (next >= 0) {
                closed[next] = true;
            }
            return next;
        }

        private boolean isAhead(int a, int b) {
            return ends[a] < ends[b] || ends[a] == ends[b] && keys[a] < keys[b];
        }

        void removeGone(int watermark, int late) {
            int kept = 0;
            for (int i = 0; i < count && i < keys.length; i++) {
                if (ends[i] + late > watermark) {
                    move(i, kept);
                    kept++;
                }
            }
            count = kept;
        }

        private void move(int from, int to) {
            keys[to] = keys[from];
            ends[to] = ends[from];
            closed[to] = closed[from];
            sizes[to] = sizes[from];
            for (int i = 0; i < MAX_TOTALS; i++) {
                totals[to * MAX_TOTALS + i] = totals[from * MAX_TOTALS + i];
            }
        }
    }

    /** An entry of the log. */
    private static final class Entry {
        private int what;
        // Of a push: the name of the source, as another program may number it otherwise.
        private long source;
        private final Row row = new Row();
        // Of a release or discard: the place of the held row.
        private int place;
    }

    /** The desk at work: rows go through the streams of a program, and are held. */
    private static final class Engine {
        private Program program;
        private final Row[] held = new Row[MAX_HELD];
        private int heldCount;
        private int lost;
        private boolean stopped;
        private int pushes;
        // How many rows all streams took since the latest entry was begun.
        private int taken;

        // The row that a step looks at, the one of a join's other input, and what comes of them.
        private final Row in = new Row();
        private final Row partner = new Row();
        private final Row out = new Row();

        Engine(Program program) {
            this.program = program;
            for (int i = 0; i < held.length; i++) {
                held[i] = new Row();
            }
        }

        /** Begins with a desk without rows. */
        void start(Program newProgram) {
            program = newProgram;
            for (int i = 0; i < program.streamCount; i++) {
                program.streams[i].dropRows();
            }
            for (int i = 0; i < program.checkCount; i++) {
                program.checks[i].broken = 0;
            }
            heldCount = 0;
            lost = 0;
            stopped = false;
            pushes = 0;
        }

        /** Does an entry, but for the steps; tells whether it was done, and not skipped. */
        boolean perform(Entry entry) {
            taken = 0;
            switch (entry.what) {
                case ENTRY_PUSH:
                    return doPush(entry);
                case ENTRY_RELEASE:
                    return doRelease(entry.place);
                case ENTRY_DISCARD:
                    return removeHeld(entry.place);
                default:
                    boolean wasStopped = stopped;
                    stopped = false;
                    return wasStopped;
            }
        }

        void runSteps() {
            for (int s = 0; s < program.streamCount; s++) {
                Stream step = program.streams[s];
                if (step.kind == KIND_SOURCE) {
                    continue;
                }
                lookAtNewRows(s, step, 0);
                lookAtNewRows(s, step, 1);
                step.watermark = leastWatermark(step);
                if (step.kind == KIND_WINDOW) {
                    closeWindows(s, step);
                }
            }
        }

        /** Does a push, but for the steps; tells whether it was done. */
        private boolean doPush(Entry entry) {
            int s = program.streamNamed(entry.source);
            if (stopped || s < 0) {
                return false;
            }
            Stream source = program.streams[s];
            if (source.kind != KIND_SOURCE || source.width != entry.row.width) {
                return false;
            }
            pushes++;
            source.watermark = Math.max(source.watermark, entry.row.time - source.span);
            give(s, entry.row);
            return true;
        }

        /** Does a release, but for the steps; tells whether it was done. */
        private boolean doRelease(int place) {
            if (place < 0 || place >= heldCount) {
                return false;
            }
            in.copyFrom(held[place]);
            int s = held[place].stream;
            int reason = held[place].reason;
            removeHeld(place);
            if (s < 0 || s >= program.streamCount) {
                return true;
            }
            if (reason != REASON_LATE) {
                accept(s, in);
            } else if (enterWindow(s, true)) {
                give(s, out);
            }
            return true;
        }

        /** Removes a held row, if it is there; tells whether it was. */
        private boolean removeHeld(int place) {
            if (place < 0 || place >= heldCount) {
                return false;
            }
            Row removed = held[place];
            for (int i = place; i < heldCount - 1; i++) {
                held[i] = held[i + 1];
            }
            held[heldCount - 1] = removed;
            heldCount--;
            return true;
        }

        /** A stream would get a row. */
        private void give(int s, Row row) {
            for (int c = 0; c < program.checkCount; c++) {
                Check check = program.checks[c];
                if (check.stream != s || program.reckon(check.codeStart, check.codeEnd, row) != 0) {
                    continue;
                }
                check.broken++;
                if (check.fate == STOP) {
                    stopped = true;
                }
                if (check.fate != DROP) {
                    hold(s, c, row);
                }
                return;
            }
            accept(s, row);
        }

        /** A stream takes a row without checks, or the row is lost. */
        private void accept(int s, Row row) {
            if (program.streams[s].table.add(row)) {
                taken++;
            } else {
                lost++;
            }
        }

        private void hold(int s, int reason, Row row) {
            if (heldCount >= held.length) {
                lost++;
                return;
            }
            held[heldCount].copyFrom(row);
            held[heldCount].stream = s;
            held[heldCount].reason = reason;
            heldCount++;
        }

        /** Looks at the rows that an input took since the step looked at it last. */
        private void lookAtNewRows(int s, Stream step, int input) {
            Stream from = inputOf(step, input);
            if (from == null) {
                return;
            }
            for (int i = step.seen[input]; i < from.table.count; i++) {
                from.table.copyTo(i, in);
                if (step.kind == KIND_JOIN) {
                    joinNewRow(s, step, input == 0);
                } else if (comesOut(s, step, from.table, i)) {
                    give(s, out);
                }
            }
            step.seen[input] = from.table.count;
        }

        /** The first (0) or second (1) input of a step; null if there is none. */
        private Stream inputOf(Stream step, int input) {
            int from = step.inputs[input];
            return from >= 0 && from < program.streamCount ? program.streams[from] : null;
        }

        /** Makes what comes of a new row; tells whether the stream would get it. */
        private boolean comesOut(int s, Stream step, Table rows, int row) {
            switch (step.kind) {
                case KIND_KEEP:
                    out.copyFrom(in);
                    return program.reckon(step.codeStarts[0], step.codeEnds[0], in) != 0;
                case KIND_MAKE:
                    out.copyFrom(in);
                    for (int i = in.width; i < step.width && i < MAX_COLUMNS; i++) {
                        out.append(program.reckon(step.codeStarts[i], step.codeEnds[i], in));
                    }
                    return true;
                case KIND_PICK:
                    out.startAt(in.time);
                    for (int i = 0; i < step.width && i < MAX_COLUMNS; i++) {
                        out.append(in.numberAt(step.parts[i]));
                    }
                    return true;
                case KIND_MERGE:
                    out.copyFrom(in);
                    return true;
                case KIND_FIRST:
                    out.copyFrom(in);
                    return isFirst(step, rows, row);
                case KIND_WINDOW:
                    return enterWindow(s, false);
                default:
                    return false;
            }
        }

        /** Tells whether a "first" gives the row on, and keeps it in mind. */
        private boolean isFirst(Stream step, Table rows, int row) {
            boolean isGiven = true;
            for (int i = 0; i < row && i < step.given.length; i++) {
                if (step.given[i] && rows.numberOf(i, step.key) == in.numberAt(step.key)
                        && Math.abs(rows.timeOf(i) - in.time) <= step.span) {
                    isGiven = false;
                }
            }
            if (row < step.given.length) {
                step.given[row] = isGiven;
            }
            return isGiven;
        }

        /** Joins the new row with the rows of the other input that are due. */
        private void joinNewRow(int s, Stream step, boolean isOfFirst) {
            Stream other = inputOf(step, isOfFirst ? 1 : 0);
            if (other == null) {
                return;
            }
            int due = isOfFirst ? step.seen[1] : other.table.count;
            int otherKey = isOfFirst ? step.otherKey : step.key;
            long number = in.numberAt(isOfFirst ? step.key : step.otherKey);
            for (int i = 0; i < due; i++) {
                if (other.table.numberOf(i, otherKey) == number
                        && Math.abs(other.table.timeOf(i) - in.time) <= step.span) {
                    other.table.copyTo(i, partner);
                    makeJoined(step, isOfFirst ? in : partner, isOfFirst ? partner : in);
                    give(s, out);
                }
            }
        }

        /** Makes the row of both: the key stands in it once. */
        private void makeJoined(Stream step, Row left, Row right) {
            out.copyFrom(left);
            out.time = Math.max(left.time, right.time);
            for (int i = 0; i < right.width; i++) {
                if (i != step.otherKey) {
                    out.append(right.numberAt(i));
                }
            }
        }

        /** Puts the row into its window; tells whether the stream would get the window's row. */
        private boolean enterWindow(int s, boolean isReleased) {
            Stream step = program.streams[s];
            if (step.span <= 0) {
                return false;
            }
            int end = in.time - in.time % step.span + step.span;
            if (!isReleased && step.watermark >= end + step.late) {
                hold(s, REASON_LATE, in);
                return false;
            }
            boolean isLate = step.watermark >= end;
            Windows windows = step.windows;
            int place = windows.placeFor(in.numberAt(step.key), end, isLate);
            if (place < 0) {
                lost++;
                return false;
            }
            windows.countRow(place);
            for (int i = FIRST_TOTAL; i < step.width && i < MAX_COLUMNS; i++) {
                long number = step.parts[i] == COUNT ? 0
                        : program.reckon(step.codeStarts[i], step.codeEnds[i], in);
                windows.addTo(place, i - FIRST_TOTAL, step.parts[i], number);
            }
            windows.copyTo(place, step.span, step.width - FIRST_TOTAL, out);
            return isLate || isReleased;
        }

        private int leastWatermark(Stream step) {
            Stream first = inputOf(step, 0);
            Stream second = inputOf(step, 1);
            if (first == null) {
                return step.watermark;
            }
            return second == null ? first.watermark : Math.min(first.watermark, second.watermark);
        }

        private void closeWindows(int s, Stream step) {
            for (int i = 0; i < MAX_WINDOWS; i++) {
                int place = step.windows.closeNext(step.watermark);
                if (place < 0) {
                    break;
                }
                step.windows.copyTo(place, step.span, step.width - FIRST_TOTAL, out);
                give(s, out);
            }
            step.windows.removeGone(step.watermark, step.late);
        }
    }
}
