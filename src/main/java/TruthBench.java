/**
 * Expressions of a database: read with the place at which they are broken, checked by their types,
 * and worked out over registers with NULL, whole numbers, texts and truths.
 *
 * An expression is kept as a row of steps, each part before what it is a part of. So the types are
 * looked at in the document's order by one walk over the row, and neither checking nor working out
 * needs recursion.
 */
public final class TruthBench {
    private static final int INT = 0;
    private static final int TEXT = 1;
    private static final int BOOL = 2;
    private static final int NULL = 3;
    /** What a step may ask of its parts beside a kind: one kind for all of them, or nothing. */
    private static final int SAME = 4;
    private static final int ANY = 5;

    private static final int TYPE_ERROR = 1;
    private static final int FUNCTION_ERROR = 2;
    private static final int DIVISION_ERROR = 3;
    private static final int INT_ERROR = 4;
    private static final int TEXT_ERROR = 5;
    private static final int SUBSTR_ERROR = 6;

    private static final long MOST_INT = 9007199254740991L;
    private static final int MOST_CHARACTERS = 40;
    private static final int MOST_BYTES = 1000;
    private static final int FEED_BYTES = 20;
    private static final int MOST_NAME = 20;
    private static final int MOST_OPEN = 30;
    private static final int MOST_PARTS = 8;
    private static final int MOST_WHENS = 19;
    private static final int MOST_OPERATORS = 300;
    private static final int NOWHERE = -1;

    private static final int REGISTERS = 8;
    /** Slots of the values: the registers, then THE VALUE, then the stack of the working out. */
    private static final int THE_VALUE = REGISTERS;
    private static final int STACK = THE_VALUE + 1;
    /** One open X leaves at most eight values waiting: OR, AND, two of BETWEEN, +, *, two of SUBSTR. */
    private static final int SLOTS = STACK + 8 * MOST_OPEN + 2;

    private final byte[] tape = new byte[MOST_BYTES];
    private int tapeLength = 0;
    private final int[] registerKinds = new int[REGISTERS];
    private final Slots slots = new Slots();
    /** X; without a step while there is none. A broken text is read into the other one, so X stays. */
    private Program program = new Program();
    private Program spare = new Program();
    private final Parser parser = new Parser(tape, spare);
    private final Checker checker = new Checker();
    private final Worker worker = new Worker(slots);
    private int place = NOWHERE;
    private int latestError = 0;

    public TruthBench() {
    }

    public int feed(int a, int b, int c, int d, int e) throws IndexOutOfBoundsException {
        if (tapeLength + FEED_BYTES > MOST_BYTES) {
            throw new IndexOutOfBoundsException();
        }
        putBytes(a);
        putBytes(b);
        putBytes(c);
        putBytes(d);
        putBytes(e);
        return tapeLength;
    }

    private void putBytes(int four) {
        for (int shift = 24; shift >= 0 && tapeLength < MOST_BYTES; shift -= 8) {
            tape[tapeLength] = (byte) (four >> shift);
            tapeLength++;
        }
    }

    public int end(int n) throws IllegalArgumentException {
        refuseOutside(n, tapeLength);
        tapeLength = n;
        return n;
    }

    public void clear(int r, int kind) throws IllegalArgumentException {
        refuseOutside(r, REGISTERS - 1);
        refuseOutside(kind, BOOL);
        registerKinds[r] = kind;
        slots.putNull(r);
    }

    public void set(int r, long v) throws IllegalArgumentException {
        refuseOutside(r, REGISTERS - 1);
        if (!fitsNumber(registerKinds[r], v)) {
            throw new IllegalArgumentException();
        }
        slots.putNumber(r, registerKinds[r], v);
    }

    public void text(int r) throws IllegalArgumentException {
        int length = tapeLength;
        tapeLength = 0;
        refuseOutside(r, REGISTERS - 1);
        if (registerKinds[r] != TEXT || length > MOST_CHARACTERS || !areCharacters(tape, length)) {
            throw new IllegalArgumentException();
        }
        slots.putText(r, tape, 0, length);
    }

    public int read() throws UnsupportedOperationException {
        int length = tapeLength;
        tapeLength = 0;
        place = parser.parse(length, spare);
        if (place != NOWHERE) {
            throw new UnsupportedOperationException();
        }
        Program old = program;
        program = spare;
        spare = old;
        return length;
    }

    public int kind() throws IllegalStateException, ArithmeticException {
        return checkedKind();
    }

    public int work() throws IllegalStateException, ArithmeticException {
        checkedKind();
        tellError(worker.run(program));
        slots.copy(STACK, THE_VALUE);
        return slots.isNull(THE_VALUE) ? 0 : 1;
    }

    public int keep(int r) throws IllegalArgumentException {
        refuseOutside(r, REGISTERS - 1);
        if (!slots.isNull(THE_VALUE) && slots.kinds[THE_VALUE] != registerKinds[r]) {
            return 0;
        }
        slots.copy(THE_VALUE, r);
        return 1;
    }

    public long value(int what) throws IllegalArgumentException {
        refuseOutside(what, MOST_CHARACTERS / 8);
        return what == 0 ? slots.numbers[THE_VALUE] : slots.eightCharacters(THE_VALUE, 8 * what - 8);
    }

    public int count(int what) throws IllegalArgumentException {
        refuseOutside(what, 2);
        if (what == 0) {
            return tapeLength;
        }
        return what == 1 ? place : latestError;
    }

    private static void refuseOutside(int number, int most) {
        if (number < 0 || number > most) {
            throw new IllegalArgumentException();
        }
    }

    private int checkedKind() {
        if (program.length == 0) {
            throw new IllegalStateException();
        }
        tellError(checker.check(program, registerKinds));
        return checker.found;
    }

    private void tellError(int error) {
        if (error != 0) {
            latestError = error;
            throw new ArithmeticException();
        }
    }

    private static boolean fitsNumber(int kind, long v) {
        if (kind == INT) {
            return isInt(v);
        }
        return kind == BOOL && (v == 0 || v == 1);
    }

    private static boolean isInt(long v) {
        return v >= -MOST_INT && v <= MOST_INT;
    }

    private static boolean isCharacter(byte b) {
        return b >= 32 && b <= 126;
    }

    private static boolean areCharacters(byte[] bytes, int length) {
        for (int k = 0; k < length; k++) {
            if (!isCharacter(bytes[k])) {
                return false;
            }
        }
        return true;
    }

    private static int lowered(int c) {
        return c >= 'A' && c <= 'Z' ? c + 32 : c;
    }

    private static int raised(int c) {
        return c >= 'a' && c <= 'z' ? c - 32 : c;
    }

    /** Whether the bytes from .. to - 1 are the word, which is written in small letters. */
    private static boolean isWord(byte[] bytes, int from, int to, String word) {
        if (word.length() != to - from) {
            return false;
        }
        for (int k = 0; k < word.length(); k++) {
            if (lowered(bytes[from + k]) != word.charAt(k)) {
                return false;
            }
        }
        return true;
    }

    /** The signs of a text. NO_SIGN stands where nothing of them does: no rule takes it. */
    private enum Sign {
        OR("or"), AND("and"), NOT("not"), IS("is"), NULL("null"), IN("in"), LIKE("like"),
        BETWEEN("between"), CASE("case"), WHEN("when"), THEN("then"), ELSE("else"), END("end"),
        TRUE("true"), FALSE("false"),
        NAME(""), INTEGER(""), CHARACTERS(""),
        EQUAL(""), OTHER(""), LESS(""), AT_MOST(""), GREATER(""), AT_LEAST(""),
        PLUS(""), MINUS(""), JOIN(""), TIMES(""), OVER(""), REST(""),
        OPEN(""), CLOSE(""), COMMA(""), LAST(""), NO_SIGN("");

        private static final Sign[] ALL = values();

        private final String word;

        Sign(String word) {
            this.word = word;
        }

        static Sign ofWord(byte[] bytes, int from, int to) {
            for (int k = 0; k < ALL.length; k++) {
                if (isWord(bytes, from, to, ALL[k].word)) {
                    return ALL[k];
                }
            }
            return NAME;
        }
    }

    /**
     * The steps of a program. Those with kinds close a part: they ask the first kind of their first
     * part, the rest kind of the others, and are of the kind of their result. Those without push a
     * value, or are there for the working out alone, where they may jump forward.
     */
    private enum Op {
        NONE, PUSH_INT, PUSH_TEXT, PUSH_BOOL, PUSH_NULL, PUSH_REGISTER,
        OR_LEFT, AND_LEFT, IN_LEFT, IN_PART, BETWEEN_LOW, WHEN, THEN, COALESCE_PART,
        OR(false, BOOL, BOOL, BOOL), AND(false, BOOL, BOOL, BOOL), NOT(true, BOOL, BOOL, BOOL),
        IS_NULL(false, ANY, ANY, BOOL), IN(false, SAME, SAME, BOOL), BETWEEN(false, SAME, SAME, BOOL),
        EQUAL(true, SAME, SAME, BOOL), OTHER(true, SAME, SAME, BOOL), LESS(true, SAME, SAME, BOOL),
        AT_MOST(true, SAME, SAME, BOOL), GREATER(true, SAME, SAME, BOOL), AT_LEAST(true, SAME, SAME, BOOL),
        LIKE(true, TEXT, TEXT, BOOL), JOIN(true, TEXT, TEXT, TEXT),
        PLUS(true, INT, INT, INT), MINUS(true, INT, INT, INT), TIMES(true, INT, INT, INT),
        OVER(true, INT, INT, INT), REST(true, INT, INT, INT), NEGATE(true, INT, INT, INT),
        CASE(false, BOOL, SAME, SAME),
        ABS("abs", true, INT, INT, INT), LENGTH("length", true, TEXT, TEXT, INT),
        UPPER("upper", true, TEXT, TEXT, TEXT), LOWER("lower", true, TEXT, TEXT, TEXT),
        SUBSTR("substr", true, TEXT, INT, TEXT), COALESCE("coalesce", false, SAME, SAME, SAME),
        NULLIF("nullif", false, SAME, SAME, SAME), UNKNOWN(false, ANY, ANY, ANY);

        private static final Op[] ALL = values();

        /** That of a function; no name is empty. */
        private final String word;
        final boolean closing;
        /** NULL in it makes it NULL. */
        final boolean strict;
        final int first;
        final int rest;
        final int result;

        Op() {
            this.word = "";
            this.closing = false;
            this.strict = false;
            this.first = ANY;
            this.rest = ANY;
            this.result = ANY;
        }

        Op(boolean strict, int first, int rest, int result) {
            this("", strict, first, rest, result);
        }

        Op(String word, boolean strict, int first, int rest, int result) {
            this.word = word;
            this.closing = true;
            this.strict = strict;
            this.first = first;
            this.rest = rest;
            this.result = result;
        }

        /** Whether it may have so many parts; the rules see to that but for the functions. */
        boolean takes(int parts) {
            switch (this) {
                case ABS:
                case LENGTH:
                case UPPER:
                case LOWER:
                    return parts == 1;
                case NULLIF:
                    return parts == 2;
                case SUBSTR:
                    return parts == 3;
                case COALESCE:
                    return parts >= 1;
                default:
                    return this != UNKNOWN;
            }
        }

        static Op ofFunction(byte[] bytes, int from, int to) {
            for (int k = 0; k < ALL.length; k++) {
                if (isWord(bytes, from, to, ALL[k].word)) {
                    return ALL[k];
                }
            }
            return UNKNOWN;
        }
    }

    /** Finds the signs of the text on the tape, one after the other. */
    private static final class Scanner {
        private final byte[] bytes;
        private int length = 0;
        private int at = 0;
        /** The sign that stands now, the place of its first byte and the place behind it. */
        Sign sign = Sign.NO_SIGN;
        int start = 0;
        int after = 0;
        long number = 0;

        Scanner(byte[] bytes) {
            this.bytes = bytes;
        }

        void begin(int textLength) {
            length = Math.min(textLength, bytes.length);
            at = 0;
            next();
        }

        void next() {
            skipBlanks();
            start = at;
            after = at;
            if (at >= length) {
                sign = Sign.LAST;
                return;
            }
            byte b = bytes[at];
            if (isLetter(b)) {
                takeWord();
            } else if (isDigit(b)) {
                takeInteger();
            } else if (b == '\'') {
                takeCharacters();
            } else {
                takeMark(b);
            }
            at = after;
        }

        /** From here on no sign stands anywhere, so that all rules come to their ends. */
        void stop() {
            sign = Sign.NO_SIGN;
        }

        /** The register that the name is, NOWHERE if it is none. */
        int register() {
            int number = after - start == 1 ? lowered(bytes[start]) - 'a' : NOWHERE;
            return number >= 0 && number < REGISTERS ? number : NOWHERE;
        }

        private void skipBlanks() {
            boolean comment = false;
            for (; at < length; at++) {
                byte b = bytes[at];
                if (comment) {
                    comment = b != 10;
                } else if (b == '-' && followedBy('-')) {
                    comment = true;
                } else if (!isBlank(b)) {
                    return;
                }
            }
        }

        private boolean followedBy(int c) {
            return at + 1 < length && bytes[at + 1] == c;
        }

        private static boolean isBlank(byte b) {
            return b == 32 || b == 9 || b == 10 || b == 13;
        }

        private static boolean isLetter(byte b) {
            return b >= 'a' && b <= 'z' || b >= 'A' && b <= 'Z' || b == '_';
        }

        private static boolean isDigit(byte b) {
            return b >= '0' && b <= '9';
        }

        private void takeWord() {
            while (after < length && (isLetter(bytes[after]) || isDigit(bytes[after]))) {
                after++;
            }
            sign = after - start > MOST_NAME ? Sign.NO_SIGN : Sign.ofWord(bytes, start, after);
        }

        private void takeInteger() {
            number = 0;
            while (after < length && isDigit(bytes[after])) {
                // Held just above the greatest, so that no number of digits runs over.
                number = Math.min(10 * number + bytes[after] - '0', MOST_INT + 1);
                after++;
            }
            sign = number > MOST_INT ? Sign.NO_SIGN : Sign.INTEGER;
        }

        private void takeCharacters() {
            int characters = 0;
            boolean closed = false;
            boolean good = true;
            for (after = start + 1; after < length && !closed; after++) {
                byte b = bytes[after];
                if (b == '\'' && (after + 1 >= length || bytes[after + 1] != '\'')) {
                    closed = true;
                } else {
                    if (b == '\'') {
                        after++;
                    }
                    good = good && isCharacter(b);
                    characters++;
                }
            }
            sign = closed && good && characters <= MOST_CHARACTERS ? Sign.CHARACTERS : Sign.NO_SIGN;
        }

        private void takeMark(byte b) {
            sign = markOf(b);
            if (sign == Sign.LESS && followedBy('>')) {
                sign = Sign.OTHER;
            } else if (sign == Sign.LESS && followedBy('=')) {
                sign = Sign.AT_MOST;
            } else if (sign == Sign.GREATER && followedBy('=')) {
                sign = Sign.AT_LEAST;
            } else if (sign == Sign.JOIN && !followedBy('|')) {
                sign = Sign.NO_SIGN;
            }
            boolean two = sign == Sign.OTHER || sign == Sign.AT_MOST || sign == Sign.AT_LEAST || sign == Sign.JOIN;
            after = at + (two ? 2 : 1);
        }

        private static Sign markOf(byte b) {
            switch (b) {
                case '=': return Sign.EQUAL;
                case '<': return Sign.LESS;
                case '>': return Sign.GREATER;
                case '+': return Sign.PLUS;
                case '-': return Sign.MINUS;
                case '|': return Sign.JOIN;
                case '*': return Sign.TIMES;
                case '/': return Sign.OVER;
                case '%': return Sign.REST;
                case '(': return Sign.OPEN;
                case ')': return Sign.CLOSE;
                case ',': return Sign.COMMA;
                default: return Sign.NO_SIGN;
            }
        }
    }

    /** The steps of an expression, each part before what it is a part of. */
    private static final class Program {
        /** Every step, and every byte of a text's length and characters, has a byte of the tape to itself. */
        private final Op[] ops = new Op[MOST_BYTES];
        private final long[] arguments = new long[MOST_BYTES];
        private final byte[] characters = new byte[MOST_BYTES];
        private int charactersLength = 0;
        int length = 0;

        Program() {
            for (int k = 0; k < ops.length; k++) {
                ops[k] = Op.NONE;
            }
        }

        void drop() {
            length = 0;
            charactersLength = 0;
        }

        /** Answers where the step stands. */
        int add(Op op, long argument) {
            if (length >= ops.length) {
                return NOWHERE;
            }
            ops[length] = op;
            arguments[length] = argument;
            length++;
            return length - 1;
        }

        /** The quoted text of bytes from .. to - 1: its length, then its characters, '' for '. */
        void addText(byte[] bytes, int from, int to) {
            int head = charactersLength;
            int next = head + 1;
            for (int k = from + 1; k < to - 1 && next < characters.length; k++) {
                characters[next] = bytes[k];
                next++;
                if (bytes[k] == '\'') {
                    k++;
                }
            }
            if (head < characters.length) {
                characters[head] = (byte) (next - head - 1);
                charactersLength = next;
                add(Op.PUSH_TEXT, head);
            }
        }

        /** Jumps to one target are a chain until it is known: each one's argument is the one before. */
        void aim(int lastJump, int target) {
            int jump = lastJump;
            for (int k = 0; k < length && jump >= 0 && jump < length; k++) {
                int before = (int) arguments[jump];
                arguments[jump] = target;
                jump = before;
            }
        }
    }

    /**
     * Reads the rules X to P. What is broken stops the scanner: then no rule finds a sign that it
     * takes, all of them end, and the first place stays.
     *
     * Each rule has the number of X, NOT and - in front that are open as its argument.
     */
    private static final class Parser {
        private final Scanner scanner;
        private final byte[] bytes;
        private Program program;
        private int place = NOWHERE;
        private int operators = 0;

        Parser(byte[] bytes, Program program) {
            this.bytes = bytes;
            this.program = program;
            this.scanner = new Scanner(bytes);
        }

        /** Answers the place where the text is broken, NOWHERE if it is not. */
        int parse(int length, Program into) {
            program = into;
            program.drop();
            place = NOWHERE;
            operators = 0;
            scanner.begin(length);
            expression(1);
            if (scanner.sign != Sign.LAST) {
                breakHere();
            }
            return place;
        }

        private void breakHere() {
            breakAt(scanner.start);
        }

        private void breakAt(int where) {
            if (place == NOWHERE) {
                place = where;
            }
            scanner.stop();
        }

        private void take(Sign due) {
            if (scanner.sign == due) {
                scanner.next();
            } else {
                breakHere();
            }
        }

        private void takeOperator() {
            operators++;
            if (operators > MOST_OPERATORS) {
                breakHere();
            } else {
                scanner.next();
            }
        }

        /** Takes the NOTs or the -s in front; answers how many. */
        private int takeInFront(Sign sign, int open) {
            int taken = 0;
            while (scanner.sign == sign && open + taken < MOST_OPEN) {
                scanner.next();
                taken++;
            }
            if (scanner.sign == sign) {
                breakHere();
            }
            return taken;
        }

        private void addEach(Op op, int times) {
            for (int k = 0; k < times; k++) {
                program.add(op, 1);
            }
        }

        private void expression(int open) {
            if (open > MOST_OPEN) {
                breakHere();
                return;
            }
            conjunction(open);
            for (int k = 0; k <= MOST_OPERATORS && scanner.sign == Sign.OR; k++) {
                takeOperator();
                int jump = program.add(Op.OR_LEFT, NOWHERE);
                conjunction(open);
                program.aim(jump, program.add(Op.OR, 2));
            }
        }

        private void conjunction(int open) {
            condition(open);
            for (int k = 0; k <= MOST_OPERATORS && scanner.sign == Sign.AND; k++) {
                takeOperator();
                int jump = program.add(Op.AND_LEFT, NOWHERE);
                condition(open);
                program.aim(jump, program.add(Op.AND, 2));
            }
        }

        private void condition(int open) {
            int nots = takeInFront(Sign.NOT, open);
            sum(open + nots);
            comparison(open + nots);
            addEach(Op.NOT, nots);
        }

        /** What may stand behind the first S of the rule C. */
        private void comparison(int open) {
            Op op = comparisonOf(scanner.sign);
            if (op != Op.NONE) {
                scanner.next();
                sum(open);
                program.add(op, 2);
                return;
            }
            if (scanner.sign == Sign.IS) {
                nullTest();
                return;
            }
            int nots = scanner.sign == Sign.NOT ? 1 : 0;
            if (nots == 1) {
                scanner.next();
            }
            if (scanner.sign == Sign.IN) {
                scanner.next();
                program.add(Op.IN_LEFT, 0);
                list(open, Op.IN_PART, Op.IN);
            } else if (scanner.sign == Sign.LIKE) {
                scanner.next();
                sum(open);
                program.add(Op.LIKE, 2);
            } else if (scanner.sign == Sign.BETWEEN) {
                scanner.next();
                sum(open);
                int jump = program.add(Op.BETWEEN_LOW, NOWHERE);
                take(Sign.AND);
                sum(open);
                program.aim(jump, program.add(Op.BETWEEN, 3));
            } else if (nots == 1) {
                breakHere();
            }
            addEach(Op.NOT, nots);
        }

        private void nullTest() {
            scanner.next();
            int nots = scanner.sign == Sign.NOT ? 1 : 0;
            if (nots == 1) {
                scanner.next();
            }
            take(Sign.NULL);
            program.add(Op.IS_NULL, 1);
            addEach(Op.NOT, nots);
        }

        private void sum(int open) {
            product(open);
            Op op = sumOf(scanner.sign);
            for (int k = 0; k <= MOST_OPERATORS && op != Op.NONE; k++) {
                takeOperator();
                product(open);
                program.add(op, 2);
                op = sumOf(scanner.sign);
            }
        }

        private void product(int open) {
            factor(open);
            Op op = productOf(scanner.sign);
            for (int k = 0; k <= MOST_OPERATORS && op != Op.NONE; k++) {
                takeOperator();
                factor(open);
                program.add(op, 2);
                op = productOf(scanner.sign);
            }
        }

        private void factor(int openBefore) {
            int minuses = takeInFront(Sign.MINUS, openBefore);
            int open = openBefore + minuses;
            switch (scanner.sign) {
                case NAME:
                    Op function = nameOrFunction();
                    if (function != Op.NONE) {
                        list(open, function == Op.COALESCE ? Op.COALESCE_PART : Op.NONE, function);
                    }
                    break;
                case CASE:
                    choice(open);
                    break;
                case OPEN:
                    scanner.next();
                    expression(open + 1);
                    take(Sign.CLOSE);
                    break;
                default:
                    constant();
            }
            addEach(Op.NEGATE, minuses);
        }

        private void constant() {
            switch (scanner.sign) {
                case INTEGER:
                    program.add(Op.PUSH_INT, scanner.number);
                    break;
                case CHARACTERS:
                    program.addText(bytes, scanner.start, scanner.after);
                    break;
                case TRUE:
                    program.add(Op.PUSH_BOOL, 1);
                    break;
                case FALSE:
                    program.add(Op.PUSH_BOOL, 0);
                    break;
                case NULL:
                    program.add(Op.PUSH_NULL, 0);
                    break;
                default:
                    breakHere();
                    return;
            }
            scanner.next();
        }

        /** Takes a name. If it is that of a function, its ( stands now; NONE if it is a register. */
        private Op nameOrFunction() {
            int start = scanner.start;
            int after = scanner.after;
            int register = scanner.register();
            scanner.next();
            if (scanner.sign == Sign.OPEN) {
                return Op.ofFunction(bytes, start, after);
            }
            if (register == NOWHERE) {
                breakAt(start);
            } else {
                program.add(Op.PUSH_REGISTER, register);
            }
            return Op.NONE;
        }

        /** The X in ( ) of IN, which has one at least and the S before as a part, or of a function. */
        private void list(int open, Op step, Op closing) {
            take(Sign.OPEN);
            int parts = closing == Op.IN ? 1 : 0;
            int jump = NOWHERE;
            boolean more = closing == Op.IN || scanner.sign != Sign.CLOSE;
            for (int k = 0; k < MOST_PARTS && more; k++) {
                expression(open + 1);
                parts++;
                if (step != Op.NONE) {
                    jump = program.add(step, jump);
                }
                more = scanner.sign == Sign.COMMA;
                if (more) {
                    scanner.next();
                }
            }
            if (more) {
                breakHere();
            }
            take(Sign.CLOSE);
            program.aim(jump, program.add(closing, parts));
        }

        private void choice(int open) {
            scanner.next();
            int parts = 1;
            int jump = NOWHERE;
            boolean more = true;
            for (int k = 0; k < MOST_WHENS && more; k++) {
                take(Sign.WHEN);
                expression(open + 1);
                int over = program.add(Op.WHEN, NOWHERE);
                take(Sign.THEN);
                expression(open + 1);
                jump = program.add(Op.THEN, jump);
                program.aim(over, jump);
                parts += 2;
                more = scanner.sign == Sign.WHEN;
            }
            if (more) {
                breakHere();
            }
            if (scanner.sign == Sign.ELSE) {
                scanner.next();
                expression(open + 1);
            } else {
                program.add(Op.PUSH_NULL, 0);
            }
            take(Sign.END);
            program.aim(jump, program.add(Op.CASE, parts));
        }

        private static Op comparisonOf(Sign sign) {
            switch (sign) {
                case EQUAL: return Op.EQUAL;
                case OTHER: return Op.OTHER;
                case LESS: return Op.LESS;
                case AT_MOST: return Op.AT_MOST;
                case GREATER: return Op.GREATER;
                case AT_LEAST: return Op.AT_LEAST;
                default: return Op.NONE;
            }
        }

        private static Op sumOf(Sign sign) {
            switch (sign) {
                case PLUS: return Op.PLUS;
                case MINUS: return Op.MINUS;
                case JOIN: return Op.JOIN;
                default: return Op.NONE;
            }
        }

        private static Op productOf(Sign sign) {
            switch (sign) {
                case TIMES: return Op.TIMES;
                case OVER: return Op.OVER;
                case REST: return Op.REST;
                default: return Op.NONE;
            }
        }
    }

    /** Looks at the types of a program. */
    private static final class Checker {
        /** The kinds of the parts whose whole has not come yet. */
        private final int[] kinds = new int[MOST_BYTES];
        private int size = 0;
        private int error = 0;
        /** The kind of the latest program that was found good. */
        int found = NULL;

        /** Answers the first error, 0 if there is none. */
        int check(Program program, int[] registerKinds) {
            size = 0;
            error = 0;
            for (int at = 0; at < program.length && error == 0; at++) {
                Op op = program.ops[at];
                int argument = (int) program.arguments[at];
                if (op.closing) {
                    close(op, argument);
                } else {
                    pushOf(op, argument, registerKinds);
                }
            }
            if (error == 0 && size > 0) {
                found = kinds[0];
            }
            return error;
        }

        private void pushOf(Op op, int argument, int[] registerKinds) {
            switch (op) {
                case PUSH_INT:
                    push(INT);
                    break;
                case PUSH_TEXT:
                    push(TEXT);
                    break;
                case PUSH_BOOL:
                    push(BOOL);
                    break;
                case PUSH_NULL:
                    push(NULL);
                    break;
                case PUSH_REGISTER:
                    push(argument >= 0 && argument < registerKinds.length ? registerKinds[argument] : NULL);
                    break;
                default:
            }
        }

        private void push(int kind) {
            if (size < kinds.length) {
                kinds[size] = kind;
                size++;
            }
        }

        private void close(Op op, int parts) {
            if (!op.takes(parts)) {
                error = FUNCTION_ERROR;
                return;
            }
            int base = Math.max(0, size - parts);
            int same = NULL;
            for (int k = base; k < size; k++) {
                int due = dueKind(op, k - base, parts);
                if (due == SAME) {
                    due = same;
                    same = same == NULL ? kinds[k] : same;
                }
                if (!fits(kinds[k], due)) {
                    error = TYPE_ERROR;
                }
            }
            size = base;
            push(op.result == SAME ? same : op.result);
        }

        private static int dueKind(Op op, int part, int parts) {
            if (op == Op.CASE) {
                return part % 2 == 0 && part < parts - 1 ? op.first : op.rest;
            }
            return part == 0 ? op.first : op.rest;
        }

        private static boolean fits(int kind, int due) {
            return kind == due || kind == NULL || due == NULL || due == ANY;
        }
    }

    /** Values one beside the other: a kind, NULL among them, and a number or a text. */
    private static final class Slots {
        private final int[] kinds = new int[SLOTS];
        /** An INT, a BOOL as 0 or 1, the length of a TEXT, 0 for NULL. */
        private final long[] numbers = new long[SLOTS];
        private final byte[] characters = new byte[SLOTS * MOST_CHARACTERS];
        /** For LIKE: which beginnings of the text the pattern so far covers. */
        private final boolean[] covered = new boolean[MOST_CHARACTERS + 1];

        Slots() {
            for (int k = 0; k < kinds.length; k++) {
                kinds[k] = NULL;
            }
        }

        boolean isNull(int slot) {
            return kinds[slot] == NULL;
        }

        /** Whether it is the truth 1 or 0, which NULL never is. */
        boolean isTruth(int slot, int truth) {
            return kinds[slot] == BOOL && numbers[slot] == truth;
        }

        void putNull(int slot) {
            putNumber(slot, NULL, 0);
        }

        void putTruth(int slot, boolean truth) {
            putNumber(slot, BOOL, truth ? 1 : 0);
        }

        void putNumber(int slot, int kind, long number) {
            kinds[slot] = kind;
            numbers[slot] = number;
        }

        void putText(int slot, byte[] from, int start, int length) {
            int fit = Math.min(Math.min(length, MOST_CHARACTERS), from.length - start);
            putNumber(slot, TEXT, fit);
            System.arraycopy(from, start, characters, slot * MOST_CHARACTERS, fit);
        }

        void copy(int from, int to) {
            putNumber(to, kinds[from], numbers[from]);
            if (kinds[from] == TEXT) {
                int start = from * MOST_CHARACTERS;
                System.arraycopy(characters, start, characters, to * MOST_CHARACTERS, (int) numbers[from]);
            }
        }

        long eightCharacters(int slot, int from) {
            int length = kinds[slot] == TEXT ? (int) numbers[slot] : 0;
            long packed = 0;
            for (int k = from; k < from + 8; k++) {
                packed = packed << 8 | (k < length ? characters[slot * MOST_CHARACTERS + k] : 0);
            }
            return packed;
        }

        /** Below, at or above 0, as the one is less than, the same as or greater than the other. */
        int compare(int one, int other) {
            if (kinds[one] == TEXT && kinds[other] == TEXT) {
                int length = (int) Math.min(numbers[one], numbers[other]);
                for (int k = 0; k < length; k++) {
                    int a = characters[one * MOST_CHARACTERS + k];
                    int b = characters[other * MOST_CHARACTERS + k];
                    if (a != b) {
                        return a - b;
                    }
                }
            }
            return Long.compare(numbers[one], numbers[other]);
        }

        /** Puts the second text behind the first; false if that would be too long. */
        boolean join(int first, int second) {
            int length = (int) numbers[first];
            int more = (int) numbers[second];
            if (length + more > MOST_CHARACTERS) {
                return false;
            }
            System.arraycopy(characters, second * MOST_CHARACTERS, characters, first * MOST_CHARACTERS + length, more);
            numbers[first] = length + more;
            return true;
        }

        void changeLetters(int slot, boolean capitals) {
            int start = slot * MOST_CHARACTERS;
            for (int k = start; k < start + (int) numbers[slot]; k++) {
                characters[k] = (byte) (capitals ? raised(characters[k]) : lowered(characters[k]));
            }
        }

        /** Leaves the characters i (from 1) .. i + n - 1 that there are. */
        void cut(int slot, long i, long n) {
            long from = Math.max(i, 1);
            long to = Math.min(i + n - 1, numbers[slot]);
            int length = (int) Math.max(0, to - from + 1);
            int start = slot * MOST_CHARACTERS;
            if (length > 0) {
                System.arraycopy(characters, start + (int) from - 1, characters, start, length);
            }
            numbers[slot] = length;
        }

        boolean isLike(int slot, int pattern) {
            int length = (int) numbers[slot];
            for (int k = 0; k <= length; k++) {
                covered[k] = k == 0;
            }
            int start = pattern * MOST_CHARACTERS;
            for (int p = start; p < start + (int) numbers[pattern]; p++) {
                if (characters[p] == '%') {
                    coverAnyMore(length);
                } else {
                    coverOneMore(characters[p], slot, length);
                }
            }
            return covered[length];
        }

        private void coverAnyMore(int length) {
            for (int k = 1; k <= length; k++) {
                covered[k] = covered[k] || covered[k - 1];
            }
        }

        private void coverOneMore(byte wanted, int slot, int length) {
            for (int k = length; k > 0; k--) {
                byte b = characters[slot * MOST_CHARACTERS + k - 1];
                covered[k] = covered[k - 1] && (wanted == '_' || wanted == b);
            }
            covered[0] = false;
        }
    }

    /** Works out a program that the checker found good, by a stack in the slots. */
    private static final class Worker {
        private final Slots slots;
        /** The slot of the latest value, STACK - 1 if there is none. */
        private int top = STACK - 1;
        private int error = 0;

        Worker(Slots slots) {
            this.slots = slots;
        }

        /** Answers the first error; if that is 0, the value stands in the slot STACK. */
        int run(Program program) {
            top = STACK - 1;
            error = 0;
            for (int at = 0; at < program.length && error == 0; at++) {
                Op op = program.ops[at];
                long argument = program.arguments[at];
                if (op.strict) {
                    closeStrict(op, (int) argument);
                } else if (op.closing) {
                    close(op);
                } else if (jumps(op, program, argument)) {
                    at = Math.max(at, (int) argument);
                }
            }
            return error;
        }

        private void push() {
            top = Math.min(top + 1, SLOTS - 1);
        }

        private void drop(int values) {
            top = Math.max(top - values, STACK - 1);
        }

        /** A step that pushes or stands between parts; whether the steps up to its target fall away. */
        private boolean jumps(Op op, Program program, long argument) {
            switch (op) {
                case OR_LEFT:
                    return slots.isTruth(top, 1);
                case AND_LEFT:
                    return slots.isTruth(top, 0);
                case IN_PART:
                    return decidesIn();
                case BETWEEN_LOW:
                    return decidesBetween();
                case WHEN:
                    return refusesWhen();
                case THEN:
                    return true;
                case COALESCE_PART:
                    return endsCoalesce();
                default:
                    push();
                    putPushed(op, program, argument);
                    return false;
            }
        }

        private void putPushed(Op op, Program program, long argument) {
            switch (op) {
                case PUSH_INT:
                    slots.putNumber(top, INT, argument);
                    break;
                case PUSH_BOOL:
                    slots.putNumber(top, BOOL, argument);
                    break;
                case PUSH_TEXT:
                    slots.putText(top, program.characters, (int) argument + 1, program.characters[(int) argument]);
                    break;
                case PUSH_REGISTER:
                    slots.copy((int) argument, top);
                    break;
                case IN_LEFT:
                    slots.putTruth(top, false);
                    break;
                default:
                    slots.putNull(top);
            }
        }

        /** Of x, what came out so far and a part: TRUE at once, or what comes out with this part. */
        private boolean decidesIn() {
            int x = bottomOf(3);
            if (slots.isNull(x) || slots.isNull(x + 2)) {
                slots.putNull(x + 1);
            } else if (slots.compare(x, x + 2) == 0) {
                slots.putTruth(x, true);
                drop(2);
                return true;
            }
            drop(1);
            return false;
        }

        /** Of x and the low end: FALSE at once, or whether x is high enough in the low end's place. */
        private boolean decidesBetween() {
            int x = bottomOf(2);
            putAtMost(x + 1, x + 1, x);
            if (slots.isTruth(x + 1, 0)) {
                slots.putTruth(x, false);
                drop(1);
                return true;
            }
            return false;
        }

        private boolean refusesWhen() {
            boolean taken = slots.isTruth(top, 1);
            drop(1);
            return !taken;
        }

        private boolean endsCoalesce() {
            if (slots.isNull(top)) {
                drop(1);
                return false;
            }
            return true;
        }

        /** The lowest slot of the latest values, as many as are said. */
        private int bottomOf(int values) {
            return Math.max(top - values + 1, STACK);
        }

        private void putAtMost(int to, int one, int other) {
            if (slots.isNull(one) || slots.isNull(other)) {
                slots.putNull(to);
            } else {
                slots.putTruth(to, slots.compare(one, other) <= 0);
            }
        }

        private void close(Op op) {
            int last = top;
            switch (op) {
                case OR:
                    putDecided(last - 1, last, 1);
                    drop(1);
                    break;
                case AND:
                    putDecided(last - 1, last, 0);
                    drop(1);
                    break;
                case IS_NULL:
                    slots.putTruth(last, slots.isNull(last));
                    break;
                case IN:
                    slots.copy(last, last - 1);
                    drop(1);
                    break;
                case BETWEEN:
                    putAtMost(last, last - 2, last);
                    putDecided(last - 1, last, 0);
                    slots.copy(last - 1, last - 2);
                    drop(2);
                    break;
                case NULLIF:
                    closeNullif(last - 1, last);
                    break;
                case COALESCE:
                    // Whoever comes here has found and dropped nothing but NULL.
                    push();
                    slots.putNull(top);
                    break;
                default:
            }
        }

        private void closeNullif(int one, int other) {
            if (!slots.isNull(one) && !slots.isNull(other) && slots.compare(one, other) == 0) {
                slots.putNull(one);
            }
            drop(1);
        }

        /** AND or OR of three values; the truth that decides it is 0 for the one and 1 for the other. */
        private void putDecided(int left, int right, int deciding) {
            if (slots.isTruth(left, deciding) || slots.isTruth(right, deciding)) {
                slots.putNumber(left, BOOL, deciding);
            } else if (slots.isNull(left) || slots.isNull(right)) {
                slots.putNull(left);
            } else {
                slots.putNumber(left, BOOL, 1 - deciding);
            }
        }

        private void closeStrict(Op op, int parts) {
            int first = bottomOf(parts);
            boolean isNull = false;
            for (int k = first; k <= top; k++) {
                isNull = isNull || slots.isNull(k);
            }
            drop(parts - 1);
            if (isNull) {
                slots.putNull(first);
            } else if (op.result == BOOL) {
                slots.putTruth(first, isTrue(op, first));
            } else if (op.result == TEXT) {
                changeText(op, first);
            } else {
                putInt(first, result(op, first));
            }
        }

        private boolean isTrue(Op op, int first) {
            switch (op) {
                case NOT: return slots.isTruth(first, 0);
                case LIKE: return slots.isLike(first, first + 1);
                case EQUAL: return slots.compare(first, first + 1) == 0;
                case OTHER: return slots.compare(first, first + 1) != 0;
                case LESS: return slots.compare(first, first + 1) < 0;
                case AT_MOST: return slots.compare(first, first + 1) <= 0;
                case GREATER: return slots.compare(first, first + 1) > 0;
                default: return slots.compare(first, first + 1) >= 0;
            }
        }

        private void changeText(Op op, int first) {
            switch (op) {
                case UPPER:
                    slots.changeLetters(first, true);
                    break;
                case LOWER:
                    slots.changeLetters(first, false);
                    break;
                case JOIN:
                    error = slots.join(first, first + 1) ? 0 : TEXT_ERROR;
                    break;
                default:
                    cut(first, slots.numbers[first + 1], slots.numbers[first + 2]);
            }
        }

        private void cut(int slot, long i, long n) {
            if (n < 0) {
                error = SUBSTR_ERROR;
            } else {
                slots.cut(slot, i, n);
            }
        }

        private long result(Op op, int first) {
            long a = slots.numbers[first];
            switch (op) {
                case NEGATE: return -a;
                case ABS: return Math.abs(a);
                case LENGTH: return a;
                default: return resultOfTwo(op, a, slots.numbers[first + 1]);
            }
        }

        /** Too great a product is answered as some number that is too great. */
        private long resultOfTwo(Op op, long a, long b) {
            switch (op) {
                case PLUS: return a + b;
                case MINUS: return a - b;
                case TIMES: return a != 0 && Math.abs(b) > MOST_INT / Math.abs(a) ? MOST_INT + 1 : a * b;
                default:
            }
            if (b == 0) {
                error = DIVISION_ERROR;
                return 0;
            }
            return op == Op.OVER ? a / b : a % b;
        }

        private void putInt(int slot, long number) {
            if (error == 0 && !isInt(number)) {
                error = INT_ERROR;
            }
            slots.putNumber(slot, INT, number);
        }
    }
}
