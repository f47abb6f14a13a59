import java.util.Arrays;
import java.util.NoSuchElementException;

/**
 * Programs whose data bear labels of a lattice: a reader of a small language, a checker of flows,
 * a compiler, a verifier of machine code, a walker over the program and a machine.
 */
public final class FlowChain {
    private static final int MOST_LABELS = 6;
    private static final int NAMES = 26;
    private static final int ROW_LENGTH = 8;
    private static final int MOST_SIGNS = 240;
    private static final int MOST_BYTES = 8;
    private static final int MOST_OPEN = 8;
    private static final int MOST_INSTRUCTIONS = 64;
    private static final int MOST_NEXTS = 2;
    private static final int MOST_PLACES = 30;
    private static final int MOST_NUMBERS = 20;
    private static final int MOST_FUEL = 600;
    private static final int NONE = -1;

    /** BLOCKS within BLOCKS, those of PROCS too: 240 signs don't suffice for 42 of them. */
    private static final int MOST_DEPTH = 48;

    private static final int PUSH = 0;
    private static final int LOAD = 1;
    private static final int STORE = 2;
    private static final int AT = 3;
    private static final int TO = 4;
    private static final int ADD = 5;
    private static final int SUB = 6;
    private static final int MUL = 7;
    private static final int DIV = 8;
    private static final int LESS = 9;
    private static final int SAME = 10;
    private static final int ZERO = 11;
    private static final int GOTO = 12;
    private static final int IN = 13;
    private static final int OUT = 14;
    private static final int HALT = 15;

    /** Kinds of STATEMENTS that are no operations; the other kinds are STORE, TO, IN and OUT. */
    private static final int IF = 16;
    private static final int WHILE = 17;
    private static final int DO = 18;

    private static final int WITHOUT_LATTICE = 7;
    private static final int SYNTAX = 8;
    private static final int FLOW = 9;
    private static final int TOO_LONG = 10;

    private final Lattice lattice;
    private final Reader reader;
    private final FlowChecker checker;
    private final Translator translator;
    private final Verifier verifier;
    private final Machine machine;
    private final Walker walker;

    /** LABELS of VARIABLES, then of ROWS; NONE: not FIXED, or BOTTOM. */
    private final int[] marks;

    private Program program;
    private Program spareProgram;
    private Code code;
    private Code spareCode;
    private boolean hasProgram;
    private boolean isVerified;
    private int place;
    private int kind;

    public FlowChain(int n) {
        lattice = new Lattice(Math.max(1, Math.min(n, MOST_LABELS)));
        reader = new Reader(lattice);
        checker = new FlowChecker(lattice);
        translator = new Translator();
        verifier = new Verifier(lattice);
        machine = new Machine();
        walker = new Walker(machine);
        marks = new int[2 * NAMES];
        Arrays.fill(marks, NONE);
        program = new Program();
        spareProgram = new Program();
        code = new Code();
        spareCode = new Code();
        place = NONE;
        kind = NONE;
    }

    public int below(int a, int b) throws IllegalArgumentException, IllegalStateException {
        if (!lattice.has(a) || !lattice.has(b)) {
            throw new IllegalArgumentException();
        }
        if (lattice.isSealed()) {
            throw new IllegalStateException();
        }
        lattice.put(a, b);
        return lattice.pairs();
    }

    public int seal() throws IllegalStateException, UnsupportedOperationException {
        if (lattice.isSealed()) {
            throw new IllegalStateException();
        }
        int pair = lattice.unfitPair();
        if (pair != NONE) {
            tell(pair, WITHOUT_LATTICE);
            throw new UnsupportedOperationException();
        }
        tell(NONE, NONE);
        lattice.close();
        return lattice.bottom();
    }

    public int label(int what, int a, int b) throws IllegalArgumentException, IllegalStateException {
        if (what < 0 || what > 2 || !lattice.has(a) || !lattice.has(b)) {
            throw new IllegalArgumentException();
        }
        if (what == 0) {
            return asNumber(lattice.leads(a, b));
        }
        if (!lattice.isSealed()) {
            throw new IllegalStateException();
        }
        return what == 1 ? lattice.join(a, b) : lattice.meet(a, b);
    }

    public int append(long v, int n) throws IllegalArgumentException, IndexOutOfBoundsException {
        if (n < 1 || n > MOST_BYTES || !Reader.arePlain(v, n)) {
            throw new IllegalArgumentException();
        }
        if (reader.length() + n > MOST_SIGNS) {
            throw new IndexOutOfBoundsException();
        }
        reader.addSigns(v, n);
        return reader.length();
    }

    public int compile() throws IllegalStateException, NoSuchElementException,
            UnsupportedOperationException, IndexOutOfBoundsException {
        if (!lattice.isSealed()) {
            throw new IllegalStateException();
        }
        boolean isRead = canRead();
        reader.forget();
        if (!isRead) {
            tell(reader.place(), SYNTAX);
            throw new NoSuchElementException();
        }
        if (!canFlow()) {
            tell(checker.place(), FLOW);
            throw new UnsupportedOperationException();
        }
        if (!translator.fits(spareProgram, spareCode)) {
            tell(MOST_INSTRUCTIONS, TOO_LONG);
            throw new IndexOutOfBoundsException();
        }
        tell(NONE, NONE);
        takeSpare();
        return code.size();
    }

    public int code(int operation, int x) throws IllegalArgumentException, IllegalStateException {
        if (operation < PUSH || operation > HALT) {
            throw new IllegalArgumentException();
        }
        if (code.size() >= MOST_INSTRUCTIONS) {
            throw new IllegalStateException();
        }
        forgetFindings();
        code.add(operation, x);
        return code.size() - 1;
    }

    public int fix(int name, boolean row, int label) throws IllegalArgumentException {
        if (name < 0 || name >= NAMES || label != NONE && !lattice.has(label)) {
            throw new IllegalArgumentException();
        }
        int i = row ? NAMES + name : name;
        int before = marks[i];
        marks[i] = label;
        forgetFindings();
        return before;
    }

    public int clear() {
        int size = code.size();
        code.empty();
        Arrays.fill(marks, NONE);
        forgetFindings();
        return size;
    }

    public int verify() throws IllegalStateException, UnsupportedOperationException {
        if (!lattice.isSealed() || code.size() == 0) {
            throw new IllegalStateException();
        }
        isVerified = verifier.accepts(code, marks);
        if (!isVerified) {
            tell(verifier.place(), verifier.kind());
            throw new UnsupportedOperationException();
        }
        tell(NONE, NONE);
        return verifier.heights();
    }

    public int map(int instruction, int i)
            throws IllegalArgumentException, IllegalStateException, NoSuchElementException {
        if (i < 0 || i >= NAMES + 2 + MOST_PLACES) {
            throw new IllegalArgumentException();
        }
        if (!verifier.hasMaps()) {
            throw new IllegalStateException();
        }
        if (!code.has(instruction)) {
            throw new NoSuchElementException();
        }
        return verifier.mapped(instruction, i);
    }

    public int region(int instruction, int q) throws IllegalArgumentException,
            IllegalStateException, NoSuchElementException, UnsupportedOperationException {
        if (q < NONE || q >= MOST_INSTRUCTIONS) {
            throw new IllegalArgumentException();
        }
        if (!verifier.hasMaps()) {
            throw new IllegalStateException();
        }
        if (!code.has(instruction) || q > 0 && !code.has(q)) {
            throw new NoSuchElementException();
        }
        if (code.operation(instruction) != ZERO || !verifier.hasHeight(instruction)) {
            throw new UnsupportedOperationException();
        }
        return q == NONE ? verifier.nextOf(instruction) : asNumber(verifier.isInside(instruction, q));
    }

    public int feed(int label, int v) throws IllegalArgumentException, IllegalStateException {
        if (!lattice.has(label)) {
            throw new IllegalArgumentException();
        }
        if (machine.fed(label) >= MOST_NUMBERS) {
            throw new IllegalStateException();
        }
        machine.addInput(label, v);
        return machine.fed(label);
    }

    public int drain(int label) throws IllegalArgumentException {
        if (!lattice.has(label)) {
            throw new IllegalArgumentException();
        }
        int before = machine.fed(label);
        machine.emptyInput(label);
        return before;
    }

    public int run(int fuel) throws IllegalArgumentException, UnsupportedOperationException {
        if (fuel < 1 || fuel > MOST_FUEL) {
            throw new IllegalArgumentException();
        }
        if (!isVerified) {
            throw new UnsupportedOperationException();
        }
        machine.start(fuel);
        machine.goOver(code);
        return machine.ending();
    }

    public int walk(int fuel) throws IllegalArgumentException, UnsupportedOperationException {
        if (fuel < 1 || fuel > MOST_FUEL) {
            throw new IllegalArgumentException();
        }
        if (!hasProgram) {
            throw new UnsupportedOperationException();
        }
        machine.start(fuel);
        walker.goOver(program);
        return machine.ending();
    }

    public int output(int label, int i) throws IllegalArgumentException, NoSuchElementException {
        if (!lattice.has(label) || i < 0) {
            throw new IllegalArgumentException();
        }
        if (i >= machine.written(label)) {
            throw new NoSuchElementException();
        }
        return machine.numberPut(label, i);
    }

    public int value(int i) throws IllegalArgumentException {
        if (!Machine.isCell(i)) {
            throw new IllegalArgumentException();
        }
        return machine.cell(i);
    }

    public int instruction(int i, boolean argument) throws NoSuchElementException {
        if (!code.has(i)) {
            throw new NoSuchElementException();
        }
        return argument ? code.argument(i) : code.operation(i);
    }

    public int count(int what) throws IllegalArgumentException {
        switch (what) {
            case 0: return lattice.size();
            case 1: return asNumber(lattice.isSealed());
            case 2: return reader.length();
            case 3: return code.size();
            case 4: return asNumber(isVerified);
            case 5: return asNumber(hasProgram);
            case 6: return machine.fuelTaken();
            case 7: return place;
            case 8: return kind;
            default: throw new IllegalArgumentException();
        }
    }

    private static int asNumber(boolean whether) {
        return whether ? 1 : 0;
    }

    private void tell(int newPlace, int newKind) {
        place = newPlace;
        kind = newKind;
    }

    private boolean canRead() {
        try {
            reader.read(spareProgram);
            return true;
        } catch (NoSuchElementException e) {
            return false;
        }
    }

    private boolean canFlow() {
        try {
            checker.check(spareProgram);
            return true;
        } catch (UnsupportedOperationException e) {
            return false;
        }
    }

    private void takeSpare() {
        Program oldProgram = program;
        program = spareProgram;
        spareProgram = oldProgram;
        Code oldCode = code;
        code = spareCode;
        spareCode = oldCode;
        program.copyMarks(marks);
        forgetFindings();
        hasProgram = true;
    }

    private void forgetFindings() {
        hasProgram = false;
        isVerified = false;
        verifier.forget();
    }

    private static long bit(int i) {
        return 1L << i;
    }

    private static boolean holds(long set, int i) {
        return i >= 0 && i < MOST_INSTRUCTIONS && (set >> i & 1) == 1;
    }

    /** The least number in a set that is not empty. */
    private static int least(long set) {
        return Long.bitCount((set & -set) - 1);
    }

    /**
     * The LABELS and their order. The SHADE of a LABEL is the set of those that it is not BELOW:
     * BOTTOM's is empty, and that of a JOIN is the union of both, so that to join is one "or".
     */
    private static final class Lattice {
        private final int size;
        /** Bit b of ups[a]: a is BELOW b. */
        private final int[] ups;
        private boolean isSealed;
        private int bottom;

        Lattice(int size) {
            this.size = size;
            ups = new int[size];
            for (int a = 0; a < size; a++) {
                ups[a] = 1 << a;
            }
        }

        int size() {
            return size;
        }

        boolean has(int a) {
            return a >= 0 && a < size;
        }

        boolean isSealed() {
            return isSealed;
        }

        int bottom() {
            return bottom;
        }

        boolean leads(int a, int b) {
            return has(a) && has(b) && (ups[a] >> b & 1) == 1;
        }

        void put(int a, int b) {
            if (!has(a) || !has(b)) {
                return;
            }
            int gained = ups[b];
            for (int p = 0; p < size; p++) {
                if (leads(p, a)) {
                    ups[p] |= gained;
                }
            }
        }

        int pairs() {
            int pairs = 0;
            for (int a = 0; a < size; a++) {
                pairs += Integer.bitCount(ups[a]);
            }
            return pairs;
        }

        int join(int a, int b) {
            for (int c = 0; c < size; c++) {
                if (leads(a, c) && leads(b, c) && isLeastAbove(c, a, b)) {
                    return c;
                }
            }
            return NONE;
        }

        private boolean isLeastAbove(int c, int a, int b) {
            for (int d = 0; d < size; d++) {
                if (leads(a, d) && leads(b, d) && !leads(c, d)) {
                    return false;
                }
            }
            return true;
        }

        int meet(int a, int b) {
            for (int c = 0; c < size; c++) {
                if (leads(c, a) && leads(c, b) && isGreatestUnder(c, a, b)) {
                    return c;
                }
            }
            return NONE;
        }

        private boolean isGreatestUnder(int c, int a, int b) {
            for (int d = 0; d < size; d++) {
                if (leads(d, a) && leads(d, b) && !leads(d, c)) {
                    return false;
                }
            }
            return true;
        }

        /** 10 a + b of the first pair for which it can't be SEALED, or NONE. */
        int unfitPair() {
            int mutual = NONE;
            int unbound = NONE;
            // from the last pair to the first, so that the first one is what stays
            for (int a = size - 1; a >= 0; a--) {
                for (int b = size - 1; b > a; b--) {
                    if (leads(a, b) && leads(b, a)) {
                        mutual = 10 * a + b;
                    }
                    if (join(a, b) == NONE || meet(a, b) == NONE) {
                        unbound = 10 * a + b;
                    }
                }
            }
            return mutual != NONE ? mutual : unbound;
        }

        void close() {
            isSealed = true;
            for (int a = 0; a < size; a++) {
                if (Integer.bitCount(ups[a]) == size) {
                    bottom = a;
                }
            }
        }

        /** NONE stands for BOTTOM. */
        int shade(int a) {
            return has(a) ? ~ups[a] & (1 << size) - 1 : 0;
        }

        /** Whether what has the shade is BELOW a; NONE stands for BOTTOM. */
        boolean fits(int shade, int a) {
            return has(a) ? (shade >> a & 1) == 0 : shade == 0;
        }

        int labelOf(int shade) {
            for (int a = 0; a < size; a++) {
                if (shade(a) == shade) {
                    return a;
                }
            }
            return bottom;
        }
    }

    /** A STATEMENT, and the one behind it in its BLOCK. */
    private static final class Statement {
        final int kind;
        final int place;
        /** The VARIABLE or ROW that is set, or the PROC that is done. */
        int name;
        int mark;
        /** Its Es are operations from .. to - 1 of the PROGRAM. */
        final int from;
        int to;
        Statement block;
        Statement elseBlock;
        boolean hasElse;
        Statement next;

        Statement(int kind, int place, int from) {
            this.kind = kind;
            this.place = place;
            this.from = from;
            to = from;
        }
    }

    /** What was read: STATEMENTS, and their Es as operations in the order in which they are done. */
    private static final class Program {
        Statement first;
        private final Statement[] procs = new Statement[NAMES];
        private final int[] marks = new int[2 * NAMES];
        private final int[] operations = new int[MOST_SIGNS];
        private final int[] arguments = new int[MOST_SIGNS];
        private int size;

        int size() {
            return size;
        }

        void empty() {
            size = 0;
            first = null;
            for (int p = 0; p < NAMES; p++) {
                procs[p] = null;
            }
            Arrays.fill(marks, NONE);
        }

        void add(int operation, int x) {
            if (size < MOST_SIGNS) {
                operations[size] = operation;
                arguments[size] = x;
                size++;
            }
        }

        int operation(int i) {
            return i >= 0 && i < size ? operations[i] : PUSH;
        }

        int argument(int i) {
            return i >= 0 && i < size ? arguments[i] : 0;
        }

        /** LABELS of VARIABLES, then of ROWS. */
        void setMark(int i, int mark) {
            if (i >= 0 && i < 2 * NAMES) {
                marks[i] = mark;
            }
        }

        void copyMarks(int[] into) {
            System.arraycopy(marks, 0, into, 0, Math.min(marks.length, into.length));
        }

        int variableMark(int name) {
            return name >= 0 && name < NAMES ? marks[name] : NONE;
        }

        int rowMark(int name) {
            return name >= 0 && name < NAMES ? marks[NAMES + name] : NONE;
        }

        void setProc(int name, Statement block) {
            if (name >= 0 && name < NAMES) {
                procs[name] = block;
            }
        }

        Statement proc(int name) {
            return name >= 0 && name < NAMES ? procs[name] : null;
        }
    }

    /** THE TEXT and its reader: it throws NoSuchElementException where it can't go on. */
    private static final class Reader {
        /**
         * Kinds of TOKENS; a sign that is a TOKEN alone has its own number as kind, and a WORD that
         * begins a STATEMENT has that STATEMENT's kind. All these numbers differ.
         */
        private static final int END = 0;
        private static final int NAME = 1;
        private static final int NUMBER = 2;
        private static final int UNKNOWN = 3;
        private static final int VAR_WORD = 20;
        private static final int ROW_WORD = 21;
        private static final int PROC_WORD = 22;
        private static final int ELSE_WORD = 23;
        private static final String LONE_SIGNS = ";=[]{}()+-*/<:";
        private static final int MOST_DIGITS = 9;
        /** One for each sign at most, and one that stands behind all. */
        private static final int MOST_TOKENS = MOST_SIGNS + 1;

        /** What a NAME is. */
        private static final int UNMET = 0;
        private static final int VARIABLE = 1;
        private static final int ROW = 2;
        private static final int OPEN_PROC = 3;
        private static final int PROC = 4;

        private final Lattice lattice;
        private final char[] signs = new char[MOST_SIGNS];
        private int length;
        private final int[] kinds = new int[MOST_TOKENS];
        private final int[] places = new int[MOST_TOKENS];
        /** Of a NUMBER its value, of a NAME its letter from 0, else NONE. */
        private final int[] values = new int[MOST_TOKENS];
        private int tokens;
        private final int[] roles = new int[NAMES];
        private Program program;
        private int open;
        /** The number of the TOKEN that is read next, its kind, place and value. */
        private int at;
        private int token;
        private int place;
        private int value;

        Reader(Lattice lattice) {
            this.lattice = lattice;
        }

        int length() {
            return length;
        }

        /** Where the TOKEN begins at which the reader stands. */
        int place() {
            return place;
        }

        void forget() {
            length = 0;
        }

        static boolean arePlain(long v, int n) {
            for (int k = 0; k < n; k++) {
                long sign = v >> 8 * k & 255;
                if (sign < 32 || sign > 126) {
                    return false;
                }
            }
            return true;
        }

        void addSigns(long v, int n) {
            for (int k = n - 1; k >= 0 && length < MOST_SIGNS; k--) {
                signs[length] = (char) (v >> 8 * k & 255);
                length++;
            }
        }

        void read(Program into) {
            program = into;
            program.empty();
            Arrays.fill(roles, UNMET);
            open = 0;
            findTokens();
            goTo(0);
            for (int k = 0; k < MOST_SIGNS && token >= VAR_WORD && token <= PROC_WORD; k++) {
                readDeclaration();
            }
            program.first = readStatements(END);
        }

        private void findTokens() {
            tokens = 0;
            int from = 0;
            for (int k = 0; k < MOST_SIGNS && from < length; k++) {
                int behind = endOfToken(from);
                if (signs[from] != ' ') {
                    addToken(from, behind);
                }
                from = behind;
            }
            kinds[tokens] = END;
            places[tokens] = length;
            values[tokens] = NONE;
            tokens++;
        }

        private int endOfToken(int from) {
            int behind = from + 1;
            if (isLetter(from)) {
                while (behind < length && isLetter(behind)) {
                    behind++;
                }
            } else if (isDigit(from)) {
                while (behind < length && isDigit(behind)) {
                    behind++;
                }
            }
            return behind;
        }

        private boolean isLetter(int i) {
            return i >= 0 && i < length && signs[i] >= 'a' && signs[i] <= 'z';
        }

        private boolean isDigit(int i) {
            return i >= 0 && i < length && signs[i] >= '0' && signs[i] <= '9';
        }

        private void addToken(int from, int behind) {
            if (tokens >= MOST_SIGNS) {
                return;
            }
            int kind = kindOf(from, behind);
            kinds[tokens] = kind;
            places[tokens] = from;
            values[tokens] = kind == NAME ? signs[from] - 'a' : kind == NUMBER ? numberAt(from, behind) : NONE;
            tokens++;
        }

        private int kindOf(int from, int behind) {
            if (isDigit(from)) {
                return behind - from > MOST_DIGITS ? UNKNOWN : NUMBER;
            }
            if (isLetter(from)) {
                return behind - from == 1 ? NAME : kindOfWord(from, behind);
            }
            return LONE_SIGNS.indexOf(signs[from]) >= 0 ? signs[from] : UNKNOWN;
        }

        private int kindOfWord(int from, int behind) {
            return isWord("var", from, behind) ? VAR_WORD
                    : isWord("row", from, behind) ? ROW_WORD
                    : isWord("proc", from, behind) ? PROC_WORD
                    : isWord("if", from, behind) ? IF
                    : isWord("else", from, behind) ? ELSE_WORD
                    : isWord("while", from, behind) ? WHILE
                    : isWord("in", from, behind) ? IN
                    : isWord("out", from, behind) ? OUT
                    : isWord("do", from, behind) ? DO : UNKNOWN;
        }

        private boolean isWord(String word, int from, int behind) {
            boolean is = behind - from == word.length();
            for (int k = 0; is && k < word.length(); k++) {
                is = from + k < length && signs[from + k] == word.charAt(k);
            }
            return is;
        }

        private int numberAt(int from, int behind) {
            int number = 0;
            for (int i = from; i < behind && i < length; i++) {
                number = 10 * number + (signs[i] - '0');
            }
            return number;
        }

        /** To TOKEN i; the last one, END, is never left. */
        private void goTo(int i) {
            at = Math.min(i, tokens - 1);
            if (at >= 0) {
                token = kinds[at];
                place = places[at];
                value = values[at];
            }
        }

        private void readDeclaration() {
            int declared = token;
            goTo(at + 1);
            if (declared == PROC_WORD) {
                int proc = takeNewName(OPEN_PROC);
                program.setProc(proc, readBlock());
                setRole(proc, PROC);
                return;
            }
            boolean isRow = declared == ROW_WORD;
            int name = takeNewName(isRow ? ROW : VARIABLE);
            take(':');
            program.setMark(isRow ? NAMES + name : name, takeLabel());
            take(';');
        }

        private Statement readBlock() {
            openWith('{');
            Statement first = readStatements('}');
            closeWith('}');
            return first;
        }

        private Statement readStatements(int closer) {
            Statement first = null;
            Statement last = null;
            for (int k = 0; k < MOST_SIGNS && token != closer; k++) {
                Statement statement = readStatement();
                if (last == null) {
                    first = statement;
                } else {
                    last.next = statement;
                }
                last = statement;
            }
            return first;
        }

        private Statement readStatement() {
            Statement made = new Statement(kindHere(), place, program.size());
            switch (made.kind) {
                case IF:
                case WHILE:
                    readBranches(made);
                    return made;
                case IN:
                    goTo(at + 1);
                    made.name = takeName(VARIABLE);
                    take(':');
                    made.mark = takeLabel();
                    break;
                case OUT:
                    goTo(at + 1);
                    made.to = readExpression();
                    take(':');
                    made.mark = takeLabel();
                    break;
                case DO:
                    goTo(at + 1);
                    made.name = takeName(PROC);
                    break;
                default:
                    made.name = takeName(made.kind == TO ? ROW : VARIABLE);
                    if (made.kind == TO) {
                        readIndex();
                    }
                    take('=');
                    made.to = readExpression();
            }
            take(';');
            return made;
        }

        /** The kind of the STATEMENT that begins here. */
        private int kindHere() {
            switch (token) {
                case IF:
                case WHILE:
                case IN:
                case OUT:
                case DO: return token;
                default: return roleHere() == ROW ? TO : STORE;
            }
        }

        private void readBranches(Statement made) {
            goTo(at + 1);
            made.to = readExpression();
            made.block = readBlock();
            if (made.kind == IF && token == ELSE_WORD) {
                goTo(at + 1);
                made.hasElse = true;
                made.elseBlock = readBlock();
            }
        }

        /** Answers where its operations end. */
        private int readExpression() {
            readSum();
            int operation = token == '<' ? LESS : token == '=' ? SAME : NONE;
            if (operation != NONE) {
                goTo(at + 1);
                readSum();
                program.add(operation, 0);
            }
            return program.size();
        }

        private void readSum() {
            readProduct();
            for (int k = 0; k < MOST_SIGNS && (token == '+' || token == '-'); k++) {
                int operation = token == '+' ? ADD : SUB;
                goTo(at + 1);
                readProduct();
                program.add(operation, 0);
            }
        }

        private void readProduct() {
            readFactor();
            for (int k = 0; k < MOST_SIGNS && (token == '*' || token == '/'); k++) {
                int operation = token == '*' ? MUL : DIV;
                goTo(at + 1);
                readFactor();
                program.add(operation, 0);
            }
        }

        private void readFactor() {
            if (token == NUMBER) {
                program.add(PUSH, value);
                goTo(at + 1);
            } else if (token == '(') {
                openWith('(');
                readExpression();
                closeWith(')');
            } else if (roleHere() == ROW) {
                int name = takeName(ROW);
                readIndex();
                program.add(AT, name);
            } else {
                program.add(LOAD, takeName(VARIABLE));
            }
        }

        private void readIndex() {
            openWith('[');
            readExpression();
            closeWith(']');
        }

        private void openWith(int sign) {
            if (token != sign || open >= MOST_OPEN) {
                throw new NoSuchElementException();
            }
            open++;
            goTo(at + 1);
        }

        private void closeWith(int sign) {
            if (token != sign) {
                throw new NoSuchElementException();
            }
            open--;
            goTo(at + 1);
        }

        private void take(int sign) {
            if (token != sign) {
                throw new NoSuchElementException();
            }
            goTo(at + 1);
        }

        private int takeLabel() {
            if (token != NUMBER || !lattice.has(value)) {
                throw new NoSuchElementException();
            }
            int found = value;
            goTo(at + 1);
            return found;
        }

        /** What the NAME here is, or NONE if none is here. */
        private int roleHere() {
            return token == NAME && value >= 0 && value < NAMES ? roles[value] : NONE;
        }

        private void setRole(int name, int role) {
            if (name >= 0 && name < NAMES) {
                roles[name] = role;
            }
        }

        private int takeNewName(int role) {
            if (roleHere() != UNMET) {
                throw new NoSuchElementException();
            }
            int name = value;
            setRole(name, role);
            goTo(at + 1);
            return name;
        }

        private int takeName(int role) {
            if (role == VARIABLE && roleHere() == UNMET) {
                setRole(value, VARIABLE);
            }
            if (roleHere() != role) {
                throw new NoSuchElementException();
            }
            int name = value;
            goTo(at + 1);
            return name;
        }
    }

    /** Goes through a PROGRAM as FLOWS says; throws UnsupportedOperationException where a BELOW fails. */
    private static final class FlowChecker {
        /** Each VARIABLE's LABEL can rise at most 5 times, so that a while stands still before that. */
        private static final int MOST_ROUNDS = NAMES * MOST_LABELS;

        private final Lattice lattice;
        private Program program;
        /** The shades of the VARIABLES at the place that is gone through. */
        private final int[] shades = new int[NAMES];
        /** What they were before a STATEMENT, and behind its first BLOCK, for each depth. */
        private final int[][] before = new int[MOST_DEPTH][NAMES];
        private final int[][] between = new int[MOST_DEPTH][NAMES];
        private int place;

        FlowChecker(Lattice lattice) {
            this.lattice = lattice;
        }

        int place() {
            return place;
        }

        void check(Program checked) {
            program = checked;
            for (int v = 0; v < NAMES; v++) {
                shades[v] = lattice.shade(program.variableMark(v));
            }
            goThrough(program.first, 0, 0);
        }

        private void goThrough(Statement first, int level, int depth) {
            if (depth >= MOST_DEPTH) {
                return;
            }
            for (Statement s = first; s != null; s = s.next) {
                switch (s.kind) {
                    case STORE: set(s, s.name, level | shadeOf(s)); break;
                    case TO: demand(s, level | shadeOf(s), program.rowMark(s.name)); break;
                    case OUT: demand(s, level | shadeOf(s), s.mark); break;
                    case IN:
                        demand(s, level, s.mark);
                        set(s, s.name, lattice.shade(s.mark));
                        break;
                    case IF: goOverIf(s, level | shadeOf(s), depth); break;
                    case WHILE: goOverWhile(s, level, depth); break;
                    default: goThrough(program.proc(s.name), level, depth + 1); break;
                }
            }
        }

        private void goOverIf(Statement s, int level, int depth) {
            System.arraycopy(shades, 0, before[depth], 0, NAMES);
            goThrough(s.block, level, depth + 1);
            System.arraycopy(shades, 0, between[depth], 0, NAMES);
            System.arraycopy(before[depth], 0, shades, 0, NAMES);
            goThrough(s.elseBlock, level, depth + 1);
            joinInto(shades, between[depth]);
        }

        private void goOverWhile(Statement s, int level, int depth) {
            boolean changes = true;
            for (int k = 0; k < MOST_ROUNDS && changes; k++) {
                System.arraycopy(shades, 0, before[depth], 0, NAMES);
                goThrough(s.block, level | shadeOf(s), depth + 1);
                changes = joinInto(before[depth], shades);
                System.arraycopy(before[depth], 0, shades, 0, NAMES);
            }
        }

        /** Whether that changed it. */
        private static boolean joinInto(int[] into, int[] from) {
            boolean changes = false;
            for (int v = 0; v < NAMES; v++) {
                int joined = into[v] | from[v];
                changes = changes || joined != into[v];
                into[v] = joined;
            }
            return changes;
        }

        private void set(Statement s, int variable, int shade) {
            if (program.variableMark(variable) != NONE) {
                demand(s, shade, program.variableMark(variable));
            } else if (variable >= 0 && variable < NAMES) {
                shades[variable] = shade;
            }
        }

        private void demand(Statement s, int shade, int mark) {
            if (!lattice.fits(shade, mark)) {
                place = s.place;
                throw new UnsupportedOperationException();
            }
        }

        /** The shade of all Es of a STATEMENT: indices are operations of them, too. */
        private int shadeOf(Statement s) {
            int shade = 0;
            for (int i = s.from; i < s.to; i++) {
                int x = program.argument(i);
                if (program.operation(i) == LOAD && x >= 0 && x < NAMES) {
                    shade |= shades[x];
                } else if (program.operation(i) == AT) {
                    shade |= lattice.shade(program.rowMark(x));
                }
            }
            return shade;
        }
    }

    /** CODE: INSTRUCTIONS, each an operation and x. */
    private static final class Code {
        private static final int[] TAKEN = {0, 0, 1, 1, 2, 2, 2, 2, 2, 2, 2, 1, 0, 0, 1, 0};
        private static final int[] PUT = {1, 1, 0, 1, 0, 1, 1, 1, 1, 1, 1, 0, 0, 1, 0, 0};

        private final int[] operations = new int[MOST_INSTRUCTIONS];
        private final int[] arguments = new int[MOST_INSTRUCTIONS];
        private int size;

        int size() {
            return size;
        }

        void empty() {
            size = 0;
        }

        boolean has(int i) {
            return i >= 0 && i < size;
        }

        void add(int operation, int x) {
            if (size < MOST_INSTRUCTIONS) {
                operations[size] = operation;
                arguments[size] = x;
                size++;
            }
        }

        void aim(int i, int x) {
            if (has(i)) {
                arguments[i] = x;
            }
        }

        int operation(int i) {
            return has(i) ? operations[i] : HALT;
        }

        int argument(int i) {
            return has(i) ? arguments[i] : 0;
        }

        int taken(int i) {
            int operation = operation(i);
            return operation >= 0 && operation < TAKEN.length ? TAKEN[operation] : 0;
        }

        int put(int i) {
            int operation = operation(i);
            return operation >= 0 && operation < PUT.length ? PUT[operation] : 0;
        }

        boolean jumps(int i) {
            return operation(i) == ZERO || operation(i) == GOTO;
        }

        /** The set of those that can be next. */
        long nexts(int i) {
            int operation = operation(i);
            int x = argument(i);
            long nexts = 0;
            if (operation != GOTO && operation != HALT && has(i + 1)) {
                nexts |= bit(i + 1);
            }
            if ((operation == ZERO || operation == GOTO) && has(x)) {
                nexts |= bit(x);
            }
            return nexts;
        }
    }

    /** Makes the CODE of a PROGRAM. */
    private static final class Translator {
        private Program program;
        private Code code;
        private boolean isTooLong;

        /** Whether it is not TOO LONG. */
        boolean fits(Program from, Code into) {
            program = from;
            code = into;
            code.empty();
            isTooLong = false;
            goThrough(program.first, 0);
            emit(HALT, 0);
            return !isTooLong;
        }

        private void goThrough(Statement first, int depth) {
            if (depth >= MOST_DEPTH) {
                return;
            }
            for (Statement s = first; s != null && !isTooLong; s = s.next) {
                switch (s.kind) {
                    case IF: goOverIf(s, depth); break;
                    case WHILE: goOverWhile(s, depth); break;
                    case DO: goThrough(program.proc(s.name), depth + 1); break;
                    default: goOverPlain(s); break;
                }
            }
        }

        private void goOverPlain(Statement s) {
            emitExpressions(s);
            if (s.kind == IN) {
                emit(IN, s.mark);
                emit(STORE, s.name);
            } else {
                emit(s.kind, s.kind == OUT ? s.mark : s.name);
            }
        }

        private void goOverIf(Statement s, int depth) {
            emitExpressions(s);
            int zero = code.size();
            emit(ZERO, 0);
            goThrough(s.block, depth + 1);
            if (s.hasElse) {
                int leap = code.size();
                emit(GOTO, 0);
                code.aim(zero, code.size());
                goThrough(s.elseBlock, depth + 1);
                code.aim(leap, code.size());
            } else {
                code.aim(zero, code.size());
            }
        }

        private void goOverWhile(Statement s, int depth) {
            int start = code.size();
            emitExpressions(s);
            int zero = code.size();
            emit(ZERO, 0);
            goThrough(s.block, depth + 1);
            emit(GOTO, start);
            code.aim(zero, code.size());
        }

        private void emitExpressions(Statement s) {
            for (int i = s.from; i < s.to; i++) {
                emit(program.operation(i), program.argument(i));
            }
        }

        private void emit(int operation, int x) {
            if (code.size() >= MOST_INSTRUCTIONS) {
                isTooLong = true;
            }
            code.add(operation, x);
        }
    }

    /** VARIABLES, ROWS, STACK, INPUTS and OUTPUTS, and what is done with them. */
    private static final class Machine {
        private static final int CELLS = NAMES + NAMES * ROW_LENGTH;
        private static final int GOES_ON = -1;
        private static final int DONE = 0;
        private static final int BY_ZERO = 1;
        private static final int OUTSIDE = 2;
        private static final int WITHOUT_FUEL = 3;
        private static final int FULL = 4;

        private final int[] cells = new int[CELLS];
        private final int[] stack = new int[MOST_PLACES];
        private int height;
        private final int[] inputs = new int[MOST_LABELS * MOST_NUMBERS];
        private final int[] fed = new int[MOST_LABELS];
        private final int[] eaten = new int[MOST_LABELS];
        private final int[] outputs = new int[MOST_LABELS * MOST_NUMBERS];
        private final int[] written = new int[MOST_LABELS];
        private int fuel;
        private int fuelTaken;
        private int ending = DONE;

        private static boolean isMark(int mark) {
            return mark >= 0 && mark < MOST_LABELS;
        }

        static boolean isCell(int i) {
            return i >= 0 && i < CELLS;
        }

        int cell(int i) {
            return i >= 0 && i < CELLS ? cells[i] : 0;
        }

        private void setCell(int i, int v) {
            if (i >= 0 && i < CELLS) {
                cells[i] = v;
            }
        }

        int fed(int mark) {
            return isMark(mark) ? fed[mark] : 0;
        }

        void addInput(int mark, int v) {
            if (isMark(mark) && fed[mark] < MOST_NUMBERS) {
                inputs[mark * MOST_NUMBERS + fed[mark]] = v;
                fed[mark]++;
            }
        }

        void emptyInput(int mark) {
            if (isMark(mark)) {
                fed[mark] = 0;
            }
        }

        int written(int mark) {
            return isMark(mark) ? written[mark] : 0;
        }

        int numberPut(int mark, int i) {
            return i >= 0 && i < written(mark) ? outputs[mark * MOST_NUMBERS + i] : 0;
        }

        int fuelTaken() {
            return fuelTaken;
        }

        int ending() {
            return ending;
        }

        void start(int givenFuel) {
            Arrays.fill(cells, 0);
            Arrays.fill(eaten, 0);
            Arrays.fill(written, 0);
            height = 0;
            fuel = givenFuel;
            fuelTaken = 0;
            ending = GOES_ON;
        }

        boolean goesOn() {
            return ending == GOES_ON;
        }

        void finish() {
            if (goesOn()) {
                ending = DONE;
            }
        }

        /** Whether there was FUEL for one thing more. */
        boolean burns() {
            if (fuelTaken >= fuel) {
                ending = WITHOUT_FUEL;
                return false;
            }
            fuelTaken++;
            return true;
        }

        int pop() {
            if (height <= 0) {
                return 0;
            }
            height--;
            return stack[height];
        }

        private void push(int v) {
            if (height < MOST_PLACES) {
                stack[height] = v;
                height++;
            }
        }

        void goOver(Code code) {
            int at = 0;
            for (int k = 0; k <= MOST_FUEL && goesOn() && burns(); k++) {
                at = step(code.operation(at), code.argument(at), at);
            }
        }

        /** Answers the INSTRUCTION that is next. */
        private int step(int operation, int x, int at) {
            switch (operation) {
                case ZERO: return pop() == 0 ? x : at + 1;
                case GOTO: return x;
                case HALT: finish(); return at;
                default: perform(operation, x); return at + 1;
            }
        }

        void perform(int operation, int x) {
            switch (operation) {
                case PUSH: push(x); break;
                case LOAD: push(cell(x)); break;
                case STORE: setCell(x, pop()); break;
                case AT: getFromRow(x, pop()); break;
                case TO: setInRow(x, pop(), pop()); break;
                case IN: push(nextInput(x)); break;
                case OUT: write(x, pop()); break;
                default: reckon(operation, pop(), pop()); break;
            }
        }

        private void getFromRow(int row, int i) {
            if (i < 0 || i >= ROW_LENGTH) {
                ending = OUTSIDE;
            } else {
                push(cell(NAMES + row * ROW_LENGTH + i));
            }
        }

        private void setInRow(int row, int v, int i) {
            if (i < 0 || i >= ROW_LENGTH) {
                ending = OUTSIDE;
            } else {
                setCell(NAMES + row * ROW_LENGTH + i, v);
            }
        }

        private int nextInput(int mark) {
            if (!isMark(mark) || eaten[mark] >= fed[mark]) {
                return 0;
            }
            int v = inputs[mark * MOST_NUMBERS + eaten[mark]];
            eaten[mark]++;
            return v;
        }

        private void write(int mark, int v) {
            if (!isMark(mark) || written[mark] >= MOST_NUMBERS) {
                ending = FULL;
            } else {
                outputs[mark * MOST_NUMBERS + written[mark]] = v;
                written[mark]++;
            }
        }

        /** q is what was taken first, so that it stands behind the operation's sign. */
        private void reckon(int operation, int q, int p) {
            switch (operation) {
                case ADD: push(p + q); break;
                case SUB: push(p - q); break;
                case MUL: push(p * q); break;
                case LESS: push(asNumber(p < q)); break;
                case SAME: push(asNumber(p == q)); break;
                default:
                    if (q == 0) {
                        ending = BY_ZERO;
                    } else {
                        push(p / q);
                    }
            }
        }
    }

    /** Does what a PROGRAM means, with a machine's VARIABLES, ROWS, INPUTS and OUTPUTS. */
    private static final class Walker {
        private final Machine machine;
        private Program program;

        Walker(Machine machine) {
            this.machine = machine;
        }

        void goOver(Program walked) {
            program = walked;
            goThrough(program.first, 0);
            machine.finish();
        }

        private void goThrough(Statement first, int depth) {
            if (depth >= MOST_DEPTH) {
                return;
            }
            for (Statement s = first; s != null && machine.goesOn() && machine.burns(); s = s.next) {
                switch (s.kind) {
                    case IF: goOverIf(s, depth); break;
                    case WHILE: goOverWhile(s, depth); break;
                    case DO: goThrough(program.proc(s.name), depth + 1); break;
                    default: goOverPlain(s); break;
                }
            }
        }

        private void goOverPlain(Statement s) {
            reckon(s);
            if (!machine.goesOn()) {
                return;
            }
            if (s.kind == IN) {
                machine.perform(IN, s.mark);
                machine.perform(STORE, s.name);
            } else {
                machine.perform(s.kind, s.kind == OUT ? s.mark : s.name);
            }
        }

        private void goOverIf(Statement s, int depth) {
            reckon(s);
            if (machine.goesOn()) {
                goThrough(machine.pop() != 0 ? s.block : s.elseBlock, depth + 1);
            }
        }

        private void goOverWhile(Statement s, int depth) {
            for (int k = 0; k <= MOST_FUEL && isTrue(s); k++) {
                goThrough(s.block, depth + 1);
                if (!machine.goesOn() || !machine.burns()) {
                    return;
                }
            }
        }

        private boolean isTrue(Statement s) {
            reckon(s);
            return machine.goesOn() && machine.pop() != 0;
        }

        private void reckon(Statement s) {
            for (int i = s.from; i < s.to && machine.goesOn(); i++) {
                machine.perform(program.operation(i), program.argument(i));
            }
        }
    }

    /** NEXT and REGION of each ZERO; sets of INSTRUCTIONS are bits of longs. */
    private static final class Regions {
        private final long[] nexts = new long[MOST_INSTRUCTIONS];
        /** Those on each way from one to any HALT, it too; of use for those that have such a way. */
        private final long[] sure = new long[MOST_INSTRUCTIONS];
        private final int[] next = new int[MOST_INSTRUCTIONS];
        private final long[] inside = new long[MOST_INSTRUCTIONS];
        private int size;
        private long ending;

        int nextOf(int i) {
            return i >= 0 && i < size ? next[i] : NONE;
        }

        boolean isInside(int i, int q) {
            return i >= 0 && i < size && holds(inside[i], q);
        }

        void find(Code code, long reached) {
            size = Math.min(code.size(), MOST_INSTRUCTIONS);
            ending = 0;
            for (int i = 0; i < size; i++) {
                nexts[i] = code.nexts(i);
                sure[i] = code.operation(i) == HALT ? bit(i) : -1L;
                if (code.operation(i) == HALT) {
                    ending |= bit(i);
                }
            }
            findEnding();
            findSure();
            for (int i = 0; i < size; i++) {
                boolean has = code.operation(i) == ZERO && holds(reached, i);
                next[i] = has ? findNext(i) : NONE;
                inside[i] = has ? reachedFrom(i, next[i]) : 0;
            }
        }

        /** Those that have a way to a HALT. */
        private void findEnding() {
            boolean changes = true;
            for (int k = 0; k <= size && changes; k++) {
                changes = false;
                for (int i = size - 1; i >= 0; i--) {
                    if (!holds(ending, i) && (nexts[i] & ending) != 0) {
                        ending |= bit(i);
                        changes = true;
                    }
                }
            }
        }

        /** Each round but the last takes at least one from a set: hence the bound. */
        private void findSure() {
            boolean changes = true;
            for (int k = 0; k <= size * size && changes; k++) {
                changes = false;
                for (int i = size - 1; i >= 0; i--) {
                    long met = sure[i] & (bit(i) | sureBehind(i));
                    changes = changes || met != sure[i];
                    sure[i] = met;
                }
            }
        }

        /** Those on each way from what is next to any HALT; all if there is no such way. */
        private long sureBehind(int i) {
            long common = -1L;
            long open = nexts[i] & ending;
            for (int k = 0; k < MOST_NEXTS && open != 0; k++) {
                common &= sure[least(open)];
                open &= open - 1;
            }
            return common;
        }

        /** The first on a way is that from which all the others are still sure to come. */
        private int findNext(int i) {
            if ((nexts[i] & ending) == 0) {
                return NONE;
            }
            long common = sureBehind(i) & ~bit(i);
            for (int c = 0; c < size; c++) {
                if (holds(common, c) && (common & ~sure[c]) == 0) {
                    return c;
                }
            }
            return NONE;
        }

        private long reachedFrom(int i, int without) {
            long allowed = without == NONE ? -1L : ~bit(without);
            long reached = nexts[i] & allowed;
            long open = reached;
            for (int k = 0; k < size && open != 0; k++) {
                long found = nexts[least(open)] & allowed & ~reached;
                open = open & open - 1 | found;
                reached |= found;
            }
            return reached;
        }
    }

    /** The verifier of CODE, and the maps that it leaves. */
    private static final class Verifier {
        private static final int NO_HEIGHT = -1;
        private static final int HELD = NAMES + MOST_PLACES;
        /** Each LABEL of a map can rise at most 5 times, and each round but the last raises one. */
        private static final int MOST_ROUNDS = MOST_INSTRUCTIONS * (HELD + 1) * MOST_LABELS;

        private final Lattice lattice;
        private final Regions regions = new Regions();
        private Code code;
        private int[] marks;
        private final int[] heights = new int[MOST_INSTRUCTIONS];
        private long reached;
        private final int[] levels = new int[MOST_INSTRUCTIONS];
        /** Shades of VARIABLES and places of the STACK before each INSTRUCTION. */
        private final int[][] held = new int[MOST_INSTRUCTIONS][HELD];
        private final int[] behind = new int[HELD];
        /** Those whose map has changed since they were looked at. */
        private long open;
        private boolean hasMaps;
        private int place;
        private int kind;

        Verifier(Lattice lattice) {
            this.lattice = lattice;
        }

        int place() {
            return place;
        }

        int kind() {
            return kind;
        }

        boolean hasMaps() {
            return hasMaps;
        }

        void forget() {
            hasMaps = false;
        }

        int heights() {
            return Long.bitCount(reached);
        }

        boolean hasHeight(int i) {
            return holds(reached, i);
        }

        int nextOf(int i) {
            return regions.nextOf(i);
        }

        boolean isInside(int i, int q) {
            return regions.isInside(i, q);
        }

        int mapped(int i, int what) {
            if (!hasHeight(i)) {
                return -2;
            }
            if (what < NAMES) {
                return lattice.labelOf(heldAt(i, what));
            }
            if (what == NAMES) {
                return lattice.labelOf(levels[i]);
            }
            if (what == NAMES + 1) {
                return heights[i];
            }
            int j = what - NAMES - 2;
            return j < heights[i] ? lattice.labelOf(heldAt(i, NAMES + j)) : NONE;
        }

        private int heldAt(int i, int k) {
            return i >= 0 && i < MOST_INSTRUCTIONS && k >= 0 && k < HELD ? held[i][k] : 0;
        }

        boolean accepts(Code verified, int[] itsMarks) {
            code = verified;
            marks = itsMarks;
            hasMaps = false;
            if (!argumentsFit() || !endFits() || !heightsFit()) {
                return false;
            }
            regions.find(code, reached);
            findLabels();
            hasMaps = true;
            return flowsFit();
        }

        private boolean refuse(int i, int why) {
            place = i;
            kind = why;
            return false;
        }

        private boolean argumentsFit() {
            for (int i = 0; i < code.size(); i++) {
                if (!argumentFits(code.operation(i), code.argument(i))) {
                    return refuse(i, 1);
                }
            }
            return true;
        }

        private boolean argumentFits(int operation, int x) {
            switch (operation) {
                case LOAD:
                case STORE:
                case AT:
                case TO: return x >= 0 && x < NAMES;
                case IN:
                case OUT: return lattice.has(x);
                case ZERO:
                case GOTO: return code.has(x);
                default: return true;
            }
        }

        private boolean endFits() {
            int last = code.size() - 1;
            int operation = code.operation(last);
            return operation == GOTO || operation == HALT || refuse(last, 2);
        }

        private boolean heightsFit() {
            Arrays.fill(heights, NO_HEIGHT);
            heights[0] = 0;
            reached = bit(0);
            long looked = 0;
            for (int k = 0; k < code.size() && reached != looked; k++) {
                int i = least(reached & ~looked);
                looked |= bit(i);
                if (!heightFits(i)) {
                    return false;
                }
            }
            return true;
        }

        private boolean heightFits(int i) {
            int left = heights[i] - code.taken(i);
            int height = left + code.put(i);
            if (left < 0 || height > MOST_PLACES) {
                return refuse(i, 3);
            }
            if (code.jumps(i) && height != 0) {
                return refuse(i, 4);
            }
            long nexts = code.nexts(i);
            for (int k = 0; k < MOST_NEXTS && nexts != 0; k++) {
                int next = least(nexts);
                nexts &= nexts - 1;
                if (heights[next] != NO_HEIGHT && heights[next] != height) {
                    return refuse(i, 5);
                }
                heights[next] = height;
                reached |= bit(next);
            }
            return true;
        }

        private void findLabels() {
            Arrays.fill(levels, 0);
            for (int i = 0; i < code.size(); i++) {
                Arrays.fill(held[i], 0);
            }
            for (int v = 0; v < NAMES; v++) {
                held[0][v] = lattice.shade(marks[v]);
            }
            open = reached;
            for (int k = 0; k < MOST_ROUNDS && open != 0; k++) {
                for (int i = 0; i < code.size(); i++) {
                    if (holds(open, i)) {
                        open &= ~bit(i);
                        goOver(i);
                    }
                }
            }
        }

        private void goOver(int i) {
            System.arraycopy(held[i], 0, behind, 0, HELD);
            int x = code.argument(i);
            int left = heights[i] - code.taken(i);
            int shade = levels[i] | shadeTaken(i);
            if (code.put(i) == 1 && left >= 0 && left < MOST_PLACES) {
                behind[NAMES + left] = shade | shadeOfSource(code.operation(i), i);
            }
            if (code.operation(i) == STORE && x >= 0 && x < NAMES && marks[x] == NONE) {
                behind[x] = shade;
            }
            if (code.operation(i) == ZERO) {
                raiseLevels(i, shade);
            }
            int used = NAMES + left + code.put(i);
            long nexts = code.nexts(i);
            for (int k = 0; k < MOST_NEXTS && nexts != 0; k++) {
                raiseHeld(least(nexts), used);
                nexts &= nexts - 1;
            }
        }

        private int shadeTaken(int i) {
            int shade = 0;
            for (int k = 1; k <= code.taken(i); k++) {
                shade |= heldAt(i, NAMES + heights[i] - k);
            }
            return shade;
        }

        private int shadeOfSource(int operation, int i) {
            int x = code.argument(i);
            switch (operation) {
                case LOAD: return heldAt(i, x);
                case AT: return lattice.shade(rowMark(x));
                case IN: return lattice.shade(x);
                default: return 0;
            }
        }

        private int rowMark(int x) {
            return x >= 0 && x < NAMES ? marks[NAMES + x] : NONE;
        }

        private void raiseLevels(int zero, int shade) {
            for (int i = 0; i < code.size(); i++) {
                int raised = levels[i] | shade;
                if (regions.isInside(zero, i) && raised != levels[i]) {
                    levels[i] = raised;
                    open |= bit(i);
                }
            }
        }

        private void raiseHeld(int next, int used) {
            int[] row = held[next];
            for (int k = 0; k < used && k < HELD; k++) {
                int raised = row[k] | behind[k];
                if (raised != row[k]) {
                    row[k] = raised;
                    open |= bit(next);
                }
            }
        }

        private boolean flowsFit() {
            for (int i = 0; i < code.size(); i++) {
                if (hasHeight(i) && !flowFits(i)) {
                    return refuse(i, 6);
                }
            }
            return true;
        }

        private boolean flowFits(int i) {
            int x = code.argument(i);
            int shade = levels[i] | shadeTaken(i);
            switch (code.operation(i)) {
                case STORE: return x < 0 || x >= NAMES || marks[x] == NONE || lattice.fits(shade, marks[x]);
                case TO: return lattice.fits(shade, rowMark(x));
                case IN:
                case OUT: return lattice.fits(shade, x);
                default: return true;
            }
        }
    }
}
