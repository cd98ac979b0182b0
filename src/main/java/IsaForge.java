import java.util.ArrayList;
import java.util.Arrays;
import java.util.NoSuchElementException;

/** An assembler and a disassembler that are made from a description of instructions. */
public final class IsaForge {
    private static final int MOST_BYTES = 6000;
    private static final int MOST_NAME_BYTES = 20;
    private static final int MOST_HEX_DIGITS = 8;
    private static final int MOST_DECIMAL_DIGITS = 10;
    private static final long NUMBERS = 1L << 32;
    private static final int ADDRESSES = 4096;

    private static final int MOST_KINDS = 40;
    private static final int MOST_REGISTERS = 64;
    private static final int MOST_BITS = 32;
    private static final int LEAST_MEMBERS = 2;
    private static final int MOST_MEMBERS = 32;
    private static final int MOST_INSTRUCTIONS = 96;
    private static final int MOST_PARTS = 12;
    private static final int MOST_OPERANDS = 5;
    private static final int MOST_WORDS = 4;

    private static final int FED_BYTES = 20;
    private static final int LAST_LISTED = 300;
    private static final int LISTED_BYTES = 8;

    private static final int NONE = 0;
    private static final int NAME = 1;
    private static final int NUMBER = 2;
    private static final int SIGN = 3;
    private static final int LINE_END = 4;
    private static final int TEXT_END = 5;

    private static final int REG = 0;
    private static final int NUM = 1;
    private static final int INT = 2;
    private static final int REL = 3;
    private static final int SET = 4;

    private static final int NOT_EXPECTED = 1;
    private static final int WRONG_NAME = 2;
    private static final int WRONG_NUMBER = 3;
    private static final int WRONG_WIDTH = 4;
    private static final int WRONG_OPERAND_BITS = 5;
    private static final int NO_FORM = 6;
    private static final int NO_MORE_FORM = 7;
    private static final int LAID_TWICE = 8;

    private static final int TOLD_MASK = 10;
    private static final int TOLD_DIGITS = 20;

    private final Text text;
    private final Reader reader;
    private final Machine machine;
    private final Memory memory;
    private final Describer describer;
    private final Program program;
    private final Listing shown;

    public IsaForge() {
        Text newText = new Text();
        Machine newMachine = new Machine();
        Memory newMemory = new Memory();
        Reader newReader = new Reader(newText);
        text = newText;
        reader = newReader;
        machine = newMachine;
        memory = newMemory;
        shown = new Listing(newMachine, newMemory);
        describer = new Describer(newReader, newMachine);
        program = new Program(newReader, newMachine, newMemory);
    }

    public int feed(int a, int b, int c, int d, int e) throws IllegalStateException {
        if (!text.hasRoomFor(FED_BYTES)) {
            throw new IllegalStateException("the text would be too long");
        }
        text.addFour(a);
        text.addFour(b);
        text.addFour(c);
        text.addFour(d);
        text.addFour(e);
        return text.size;
    }

    public int end(int n) throws IllegalArgumentException {
        if (n < 0 || n > text.size) {
            throw new IllegalArgumentException("the text has not so many bytes");
        }
        text.size = n;
        return text.scan(false);
    }

    public int describe() throws UnsupportedOperationException {
        program.forget();
        boolean good = describer.read();
        text.size = 0;
        if (!good) {
            throw new UnsupportedOperationException("a fault in the description");
        }
        return machine.instructionCount;
    }

    public int assemble() throws IllegalStateException, UnsupportedOperationException {
        if (machine.bits == 0) {
            throw new IllegalStateException("there is no description");
        }
        program.forget();
        boolean good = program.read() && program.settle() && program.layDown();
        text.size = 0;
        if (!good) {
            program.forget();
            throw new UnsupportedOperationException("a fault in the program");
        }
        return memory.filled;
    }

    public int kind() {
        return reader.fault;
    }

    public int place() {
        return reader.faultAt;
    }

    public long word(int address) throws NoSuchElementException {
        if (!memory.has(address)) {
            throw new NoSuchElementException("nothing is laid down there");
        }
        return memory.words[address];
    }

    public int poke(int address, long v) throws IllegalStateException, IllegalArgumentException {
        if (machine.bits == 0) {
            throw new IllegalStateException("there is no description");
        }
        if (address < 0 || address >= ADDRESSES || v < 0 || v > machine.highestWord()) {
            throw new IllegalArgumentException("no address, or no word");
        }
        memory.put(address, v);
        return memory.filled;
    }

    public int list(int address) throws NoSuchElementException {
        if (!memory.has(address)) {
            throw new NoSuchElementException("nothing is laid down there");
        }
        return shown.show(address);
    }

    public int which() {
        return shown.instruction;
    }

    public long listing(int at) throws IllegalArgumentException {
        if (at < 0 || at > LAST_LISTED) {
            throw new IllegalArgumentException("at is 0 to 300");
        }
        return shown.eightFrom(at);
    }

    public int quote() throws IllegalStateException {
        if (!text.hasRoomFor(shown.length + 1)) {
            throw new IllegalStateException("the text would be too long");
        }
        for (int i = 0; i < shown.length; i++) {
            text.addByte(shown.bytes[i]);
        }
        text.addByte('\n');
        return text.size;
    }

    public long told(int k, int what) throws IndexOutOfBoundsException, IllegalArgumentException {
        if (!machine.hasInstruction(k)) {
            throw new IndexOutOfBoundsException("there is no such instruction");
        }
        Instruction asked = machine.instructions[k];
        if (what >= TOLD_MASK && what < TOLD_MASK + asked.wordCount) {
            return asked.masks[what - TOLD_MASK];
        }
        if (what >= TOLD_DIGITS && what < TOLD_DIGITS + asked.wordCount) {
            return asked.digits[what - TOLD_DIGITS];
        }
        switch (what) {
            case 0:
                return asked.wordCount;
            case 1:
                return asked.digitCount;
            case 2:
                return asked.partCount;
            case 3:
                return asked.operandCount;
            default:
                throw new IllegalArgumentException("nothing is told of that");
        }
    }

    public boolean overlap(int j, int k) throws IndexOutOfBoundsException {
        if (!machine.hasInstruction(j) || !machine.hasInstruction(k)) {
            throw new IndexOutOfBoundsException("there is no such instruction");
        }
        return machine.instructions[j].mayBe(machine.instructions[k]);
    }

    public int count(int what) throws IllegalArgumentException {
        switch (what) {
            case 0:
                return machine.instructionCount;
            case 1:
                return machine.bits;
            case 2:
                return machine.kindCount;
            case 3:
                return memory.filled;
            case 4:
                return program.labels.size();
            case 5:
                return program.rounds;
            case 6:
                return text.size;
            case 7:
                return shown.length;
            default:
                throw new IllegalArgumentException("nothing is counted so");
        }
    }

    /** THE TEXT, and the tokens that its latest scan found. */
    private static final class Text {
        private static final String SIGNS = ".,:;=|()[]+-@";
        // Readers look up to two tokens ahead, so some ends stand behind the last token.
        private static final int ENDS = 3;

        final byte[] bytes = new byte[MOST_BYTES];
        final byte[] types = new byte[MOST_BYTES + ENDS];
        final int[] starts = new int[MOST_BYTES + ENDS];
        final int[] ends = new int[MOST_BYTES + ENDS];
        // A number's value, a sign's byte; of a name the label that a program gave it, or -1.
        final long[] worths = new long[MOST_BYTES + ENDS];
        int size;
        int tokens;

        boolean hasRoomFor(int more) {
            return size + more <= MOST_BYTES;
        }

        void addByte(int value) {
            bytes[size] = (byte) value;
            size++;
        }

        void addFour(int value) {
            addByte(value >>> 24);
            addByte(value >>> 16);
            addByte(value >>> 8);
            addByte(value);
        }

        int scan(boolean withLineEnds) {
            tokens = 0;
            int i = 0;
            while (i < size) {
                int c = bytes[i];
                int next = i + 1;
                if (c == '#') {
                    next = commentEnd(i);
                } else if (isRowByte(c)) {
                    next = rowEnd(i);
                    addRow(i, next);
                } else if (c == '\n') {
                    if (withLineEnds) {
                        addToken(LINE_END, i, next, c);
                    }
                } else if (c != ' ') {
                    addToken(SIGNS.indexOf((char) (c & 255)) >= 0 ? SIGN : NONE, i, next, c);
                }
                i = Math.max(i + 1, next);
            }
            for (int end = 0; end < ENDS; end++) {
                types[tokens + end] = TEXT_END;
            }
            return tokens;
        }

        private void addToken(int type, int start, int end, long worth) {
            types[tokens] = (byte) type;
            starts[tokens] = start;
            ends[tokens] = end;
            worths[tokens] = worth;
            tokens++;
        }

        private int commentEnd(int from) {
            int i = from;
            while (i < size && bytes[i] != '\n') {
                i++;
            }
            return i;
        }

        private int rowEnd(int from) {
            int i = from;
            while (i < size && isRowByte(bytes[i])) {
                i++;
            }
            return i;
        }

        private void addRow(int from, int to) {
            if (!isDigit(bytes[from])) {
                addToken(to - from <= MOST_NAME_BYTES ? NAME : NONE, from, to, -1);
                return;
            }
            boolean hex = to - from > 2 && bytes[from] == '0' && bytes[from + 1] == 'x';
            long value = hex
                ? valueOf(from + 2, to, 16, MOST_HEX_DIGITS)
                : valueOf(from, to, 10, MOST_DECIMAL_DIGITS);
            addToken(value < 0 ? NONE : NUMBER, from, to, value);
        }

        /** The value of a row of digits; -1 if it is no number. */
        private long valueOf(int from, int to, int base, int mostDigits) {
            if (to - from > mostDigits) {
                return -1;
            }
            long value = 0;
            for (int i = from; i < to; i++) {
                int digit = digitValue(bytes[i]);
                if (digit >= base) {
                    return -1;
                }
                value = value * base + digit;
            }
            return value < NUMBERS ? value : -1;
        }

        private static int digitValue(int c) {
            if (c >= '0' && c <= '9') {
                return c - '0';
            }
            if (c >= 'a' && c <= 'f') {
                return c - 'a' + 10;
            }
            return c >= 'A' && c <= 'F' ? c - 'A' + 10 : 16;
        }

        static boolean isDigit(int c) {
            return c >= '0' && c <= '9';
        }

        static boolean isLetter(int c) {
            return c >= 'a' && c <= 'z' || c >= 'A' && c <= 'Z';
        }

        private static boolean isRowByte(int c) {
            return isLetter(c) || isDigit(c) || c == '_';
        }

        boolean isSign(int token, int sign) {
            return types[token] == SIGN && worths[token] == sign;
        }

        boolean isLineEnd(int token) {
            return types[token] == LINE_END || types[token] == TEXT_END;
        }

        /** Whether the token is this name. */
        boolean says(int token, String name) {
            if (types[token] != NAME || ends[token] - starts[token] != name.length()) {
                return false;
            }
            for (int i = 0; i < name.length(); i++) {
                if (bytes[starts[token] + i] != name.charAt(i)) {
                    return false;
                }
            }
            return true;
        }

        boolean isSame(int token, int other) {
            int length = ends[token] - starts[token];
            if (length != ends[other] - starts[other]) {
                return false;
            }
            for (int i = 0; i < length; i++) {
                if (bytes[starts[token] + i] != bytes[starts[other] + i]) {
                    return false;
                }
            }
            return true;
        }

        int hash(int token) {
            int sum = 0;
            for (int i = starts[token]; i < ends[token]; i++) {
                sum = sum * 31 + bytes[i];
            }
            return sum;
        }

        boolean hasOnlyLetters(int token) {
            for (int i = starts[token]; i < ends[token]; i++) {
                if (!isLetter(bytes[i])) {
                    return false;
                }
            }
            return true;
        }

        boolean hasOnlyBits(int token) {
            for (int i = starts[token]; i < ends[token]; i++) {
                if (bytes[i] != '0' && bytes[i] != '1') {
                    return false;
                }
            }
            return true;
        }
    }

    /** A name of a description, kept when THE TEXT is gone. */
    private static final class Name {
        final byte[] letters;

        Name(Text text, int token) {
            letters = Arrays.copyOfRange(text.bytes, text.starts[token], text.ends[token]);
        }

        /** How many bytes the token, a name, has behind these; -1 if it does not begin so. */
        int bytesBehind(Text text, int token) {
            if (text.types[token] != NAME) {
                return -1;
            }
            int start = text.starts[token];
            int behind = text.ends[token] - start - letters.length;
            if (behind < 0) {
                return -1;
            }
            for (int i = 0; i < letters.length; i++) {
                if (text.bytes[start + i] != letters[i]) {
                    return -1;
                }
            }
            return behind;
        }
    }

    /** What an operand may be. */
    private static final class Kind {
        final int sort;
        final Name name;
        Name written;
        final Name[] members;
        // How many there are of a reg or a set.
        int size;
        int bits;

        Kind(int sort, Name name) {
            this.sort = sort;
            this.name = name;
            written = name;
            members = new Name[sort == SET ? MOST_MEMBERS : 0];
        }

        /** Gives the bits that the last one of a reg or a set needs. */
        void widen() {
            bits = 1;
            while (bits < MOST_BITS && 1L << bits < size) {
                bits++;
            }
        }

        boolean isNumber() {
            return sort == NUM || sort == INT || sort == REL;
        }

        boolean holds(long value) {
            if (sort == NUM) {
                return value >= 0 && value < 1L << bits;
            }
            long half = 1L << (bits - 1);
            return value >= -half && value < half;
        }

        /** Whether there is one for these bits. */
        boolean has(long code) {
            return isNumber() || code < size;
        }

        long valueOf(long code) {
            boolean below = (sort == INT || sort == REL) && code >= 1L << (bits - 1);
            return below ? code - (1L << bits) : code;
        }

        int memberAt(Text text, int token) {
            for (int i = 0; i < members.length && i < size; i++) {
                if (members[i].bytesBehind(text, token) == 0) {
                    return i;
                }
            }
            return -1;
        }

        int registerAt(Text text, int token) {
            int digits = written.bytesBehind(text, token);
            if (digits < 1 || digits > 2) {
                return -1;
            }
            int last = text.bytes[text.ends[token] - 1] - '0';
            int first = digits == 2 ? text.bytes[text.ends[token] - 2] - '0' : 0;
            boolean digitsAlone = last >= 0 && last <= 9 && first >= 0 && first <= 9;
            if (!digitsAlone || digits == 2 && first == 0) {
                return -1;
            }
            int number = first * 10 + last;
            return number < size ? number : -1;
        }
    }

    /** One instruction of a description. */
    private static final class Instruction {
        final Name mnemonic;
        // A sign's byte, or -1 less the number of an operand.
        final int[] parts = new int[MOST_PARTS];
        final Name[] operandNames = new Name[MOST_OPERANDS];
        final Kind[] operandKinds = new Kind[MOST_OPERANDS];
        final long[] masks = new long[MOST_WORDS];
        final long[] digits = new long[MOST_WORDS];
        // For each bit of each word: 0 for a digit, else 1 and the operand's number * 32 and its bit.
        final int[] sources = new int[MOST_WORDS * MOST_BITS];
        int partCount;
        int operandCount;
        int wordCount;
        int digitCount;

        Instruction(Name mnemonic) {
            this.mnemonic = mnemonic;
        }

        void addPart(int part) {
            parts[partCount] = part;
            partCount++;
        }

        void addOperand(Name name, Kind wanted) {
            operandNames[operandCount] = name;
            operandKinds[operandCount] = wanted;
            addPart(-1 - operandCount);
            operandCount++;
        }

        int operandNamed(Text text, int token) {
            for (int i = 0; i < operandCount; i++) {
                if (operandNames[i].bytesBehind(text, token) == 0) {
                    return i;
                }
            }
            return -1;
        }

        void putDigit(int bit, int digit) {
            masks[wordCount] |= 1L << bit;
            digits[wordCount] |= (long) digit << bit;
            digitCount++;
        }

        void putOperandBit(int bit, int operand, int operandBit) {
            sources[wordCount * MOST_BITS + bit] = 1 + operand * MOST_BITS + operandBit;
        }

        long encode(int word, long[] values) {
            long code = digits[word];
            for (int bit = 0; bit < MOST_BITS; bit++) {
                int source = sources[word * MOST_BITS + bit] - 1;
                if (source >= 0) {
                    long value = values[source / MOST_BITS] >> source % MOST_BITS;
                    code |= (value & 1) << bit;
                }
            }
            return code;
        }

        /** Gathers the operands' bits from the words that stand from an address on. */
        void decode(long[] words, int address, long[] codes) {
            Arrays.fill(codes, 0);
            for (int i = 0; i < wordCount * MOST_BITS; i++) {
                int source = sources[i] - 1;
                if (source >= 0) {
                    long bit = words[address + i / MOST_BITS] >> i % MOST_BITS & 1;
                    codes[source / MOST_BITS] |= bit << source % MOST_BITS;
                }
            }
        }

        boolean mayBe(Instruction other) {
            for (int w = 0; w < wordCount && w < other.wordCount; w++) {
                if ((masks[w] & other.masks[w] & (digits[w] ^ other.digits[w])) != 0) {
                    return false;
                }
            }
            return true;
        }
    }

    /** What a description says; without one a word has 0 bits. */
    private static final class Machine {
        final Kind[] kinds = new Kind[MOST_KINDS];
        final Instruction[] instructions = new Instruction[MOST_INSTRUCTIONS];
        int bits;
        int kindCount;
        int instructionCount;

        void clear() {
            bits = 0;
            kindCount = 0;
            instructionCount = 0;
        }

        long highestWord() {
            return (1L << bits) - 1;
        }

        boolean hasInstruction(int k) {
            return k >= 0 && k < instructionCount;
        }

        Kind kindNamed(Text text, int token) {
            for (int i = 0; i < kindCount; i++) {
                if (kinds[i].name.bytesBehind(text, token) == 0) {
                    return kinds[i];
                }
            }
            return null;
        }

        void addKind(Kind added) {
            kinds[kindCount] = added;
            kindCount++;
        }

        void addInstruction(Instruction added) {
            instructions[instructionCount] = added;
            instructionCount++;
        }
    }

    /** Goes through the tokens of THE TEXT and keeps the fault at which it stops. */
    private static final class Reader {
        final Text text;
        int at;
        int fault = 0;
        int faultAt = -1;

        Reader(Text text) {
            this.text = text;
        }

        void begin(boolean withLineEnds) {
            text.scan(withLineEnds);
            at = 0;
            fault = 0;
            faultAt = -1;
        }

        boolean hasFault() {
            return fault != 0;
        }

        boolean isDone() {
            return hasFault() || at >= text.tokens;
        }

        boolean isAtName() {
            return text.types[at] == NAME;
        }

        boolean isAt(char sign) {
            return text.types[at] == SIGN && text.worths[at] == sign;
        }

        boolean fail(int sort) {
            fault = sort;
            faultAt = at;
            return false;
        }

        void failAt(int sort, int token) {
            fault = sort;
            faultAt = token;
        }

        boolean take(char sign) {
            if (!isAt(sign)) {
                return fail(NOT_EXPECTED);
            }
            at++;
            return true;
        }

        /** The number that stands here and must lie between two; -1 with a fault. */
        long takeNumber(long least, long most) {
            if (text.types[at] != NUMBER) {
                fail(NOT_EXPECTED);
                return -1;
            }
            long value = text.worths[at];
            if (value < least || value > most) {
                fail(WRONG_NUMBER);
                return -1;
            }
            at++;
            return value;
        }
    }

    /** Reads THE TEXT as a description. */
    private static final class Describer {
        private static final String PART_SIGNS = ",()[]+-@";

        private final Reader reader;
        private final Text text;
        private final Machine machine;
        private Instruction made;
        // How many bits the word that is being read has so far, too many of them counted as well.
        private int filled;
        private final long[] seenBits = new long[MOST_OPERANDS];
        private boolean seenTwice;

        Describer(Reader reader, Machine machine) {
            this.reader = reader;
            this.text = reader.text;
            this.machine = machine;
        }

        boolean read() {
            machine.clear();
            reader.begin(false);
            readWidth();
            for (int n = 0; n <= text.tokens && !reader.isDone(); n++) {
                readStatement();
            }
            if (reader.hasFault()) {
                machine.clear();
            }
            return !reader.hasFault();
        }

        private void readWidth() {
            if (!text.says(reader.at, "word")) {
                reader.fail(NOT_EXPECTED);
                return;
            }
            reader.at++;
            int numberAt = reader.at;
            long bits = reader.takeNumber(0, NUMBERS);
            if (bits < 0) {
                return;
            }
            if (bits != 8 && bits != 16 && bits != 32) {
                reader.failAt(WRONG_NUMBER, numberAt);
                return;
            }
            if (reader.take(';')) {
                machine.bits = (int) bits;
            }
        }

        private void readStatement() {
            int statement = reader.at;
            int sort = sortOf(statement);
            if (sort < 0 && !text.says(statement, "ins")) {
                reader.fail(NOT_EXPECTED);
                return;
            }
            reader.at++;
            if (sort < 0) {
                readInstruction();
            } else {
                readKind(sort);
            }
        }

        private int sortOf(int token) {
            if (text.says(token, "reg")) {
                return REG;
            }
            if (text.says(token, "num")) {
                return NUM;
            }
            if (text.says(token, "int")) {
                return INT;
            }
            if (text.says(token, "rel")) {
                return REL;
            }
            return text.says(token, "set") ? SET : -1;
        }

        private void readKind(int sort) {
            if (!reader.isAtName()) {
                reader.fail(NOT_EXPECTED);
            } else if (machine.kindNamed(text, reader.at) != null) {
                reader.fail(WRONG_NAME);
            } else if (machine.kindCount == MOST_KINDS) {
                reader.fail(WRONG_NUMBER);
            } else {
                Kind read = new Kind(sort, new Name(text, reader.at));
                reader.at++;
                if (readRestOfKind(read) && reader.take(';')) {
                    machine.addKind(read);
                }
            }
        }

        private boolean readRestOfKind(Kind read) {
            if (read.sort == REG) {
                return readRegisters(read);
            }
            if (read.sort == SET) {
                return readMembers(read);
            }
            read.bits = (int) reader.takeNumber(1, MOST_BITS);
            return !reader.hasFault();
        }

        private boolean readRegisters(Kind read) {
            if (!reader.isAtName() || !text.hasOnlyLetters(reader.at)) {
                return reader.fail(NOT_EXPECTED);
            }
            read.written = new Name(text, reader.at);
            reader.at++;
            read.size = (int) reader.takeNumber(1, MOST_REGISTERS);
            read.widen();
            return !reader.hasFault();
        }

        private boolean readMembers(Kind read) {
            for (int n = 0; n <= text.tokens && reader.isAtName(); n++) {
                if (read.memberAt(text, reader.at) >= 0) {
                    return reader.fail(WRONG_NAME);
                }
                if (read.size == MOST_MEMBERS) {
                    return reader.fail(WRONG_NUMBER);
                }
                read.members[read.size] = new Name(text, reader.at);
                read.size++;
                reader.at++;
            }
            read.widen();
            return read.size >= LEAST_MEMBERS || reader.fail(NOT_EXPECTED);
        }

        private void readInstruction() {
            if (!reader.isAtName()) {
                reader.fail(NOT_EXPECTED);
                return;
            }
            if (machine.instructionCount == MOST_INSTRUCTIONS) {
                reader.fail(WRONG_NUMBER);
                return;
            }
            made = new Instruction(new Name(text, reader.at));
            reader.at++;
            for (int n = 0; n <= text.tokens && !reader.hasFault() && !reader.isAt('='); n++) {
                readPart();
            }
            if (reader.hasFault()) {
                return;
            }
            reader.at++;
            readBits();
            if (!reader.hasFault()) {
                machine.addInstruction(made);
            }
        }

        private void readPart() {
            boolean full = made.partCount == MOST_PARTS;
            if (reader.isAtName()) {
                if (made.operandNamed(text, reader.at) >= 0) {
                    reader.fail(WRONG_NAME);
                } else if (full || made.operandCount == MOST_OPERANDS) {
                    reader.fail(WRONG_NUMBER);
                } else {
                    readOperand();
                }
            } else if (!isPartSign(reader.at)) {
                reader.fail(NOT_EXPECTED);
            } else if (full) {
                reader.fail(WRONG_NUMBER);
            } else {
                made.addPart((int) text.worths[reader.at]);
                reader.at++;
            }
        }

        private boolean isPartSign(int token) {
            return text.types[token] == SIGN
                && PART_SIGNS.indexOf((char) (text.worths[token] & 255)) >= 0;
        }

        private void readOperand() {
            int name = reader.at;
            reader.at++;
            if (!reader.take(':')) {
                return;
            }
            if (!reader.isAtName()) {
                reader.fail(NOT_EXPECTED);
                return;
            }
            Kind found = machine.kindNamed(text, reader.at);
            if (found == null) {
                reader.fail(WRONG_NAME);
                return;
            }
            made.addOperand(new Name(text, name), found);
            reader.at++;
        }

        private void readBits() {
            filled = 0;
            Arrays.fill(seenBits, 0);
            seenTwice = false;
            boolean open = true;
            for (int n = 0; n <= text.tokens && open && !reader.hasFault(); n++) {
                if (text.types[reader.at] == NUMBER) {
                    readDigits();
                } else if (reader.isAtName()) {
                    readPiece();
                } else if (reader.isAt('|')) {
                    closeWord(true);
                } else if (reader.isAt(';')) {
                    closeWord(false);
                    open = false;
                } else {
                    reader.fail(NOT_EXPECTED);
                }
            }
        }

        private void closeWord(boolean another) {
            if (another && made.wordCount + 1 == MOST_WORDS) {
                reader.fail(WRONG_NUMBER);
            } else if (filled != machine.bits) {
                reader.fail(WRONG_WIDTH);
            } else if (!another && !hasEachBitOnce()) {
                reader.fail(WRONG_OPERAND_BITS);
            } else {
                made.wordCount++;
                filled = 0;
                reader.at++;
            }
        }

        private boolean hasEachBitOnce() {
            boolean once = !seenTwice;
            for (int i = 0; i < made.operandCount; i++) {
                once &= seenBits[i] == (1L << made.operandKinds[i].bits) - 1;
            }
            return once;
        }

        private void readDigits() {
            if (!text.hasOnlyBits(reader.at)) {
                reader.fail(WRONG_NUMBER);
                return;
            }
            for (int i = text.starts[reader.at]; i < text.ends[reader.at]; i++) {
                if (filled < machine.bits) {
                    made.putDigit(machine.bits - 1 - filled, text.bytes[i] - '0');
                }
                filled++;
            }
            reader.at++;
        }

        private void readPiece() {
            int operand = made.operandNamed(text, reader.at);
            if (operand < 0) {
                reader.fail(WRONG_NAME);
                return;
            }
            reader.at++;
            int high = made.operandKinds[operand].bits - 1;
            int low = 0;
            if (reader.isAt('[')) {
                reader.at++;
                high = (int) reader.takeNumber(0, high);
                low = high;
                if (!reader.hasFault() && reader.isAt(':')) {
                    reader.at++;
                    low = (int) reader.takeNumber(0, high);
                }
                if (reader.hasFault() || !reader.take(']')) {
                    return;
                }
            }
            putPiece(operand, high, low);
        }

        private void putPiece(int operand, int high, int low) {
            for (int bit = high; bit >= low; bit--) {
                if (filled < machine.bits) {
                    made.putOperandBit(machine.bits - 1 - filled, operand, bit);
                }
                seenTwice |= (seenBits[operand] >> bit & 1) != 0;
                seenBits[operand] |= 1L << bit;
                filled++;
            }
        }
    }

    /** The words that are laid down. */
    private static final class Memory {
        final long[] words = new long[ADDRESSES];
        final boolean[] laid = new boolean[ADDRESSES];
        int filled;

        void clear() {
            for (int i = 0; filled > 0 && i < ADDRESSES; i++) {
                laid[i] = false;
            }
            filled = 0;
        }

        boolean has(int address) {
            return address >= 0 && address < ADDRESSES && laid[address];
        }

        void put(int address, long value) {
            if (!laid[address]) {
                laid[address] = true;
                filled++;
            }
            words[address] = value;
        }
    }

    /** A line of a program on which something stands. */
    private static final class Line {
        static final int BARE = 0;
        static final int CODE = 1;
        static final int DATA = 2;
        static final int GOING = 3;

        final int sort;
        // Its first token, which is the label if it has one, and its first one behind that.
        final int first;
        final int head;
        // The label before its own of those whose names have the same hash; -1 without.
        int olderLabel = -1;
        final int[] operandsAt;
        // The number of its instruction, -1 before it has one.
        int form = -1;
        int words;
        int address;

        Line(int sort, int first, int head) {
            this.sort = sort;
            this.first = first;
            this.head = head;
            operandsAt = new int[sort == CODE ? MOST_OPERANDS : 0];
        }
    }

    /** Reads THE TEXT as a program and lays its words down. */
    private static final class Program {
        private static final int BUCKETS = 256;
        // Each round but the last takes a form from a line: some 3000 lines with 96 forms at most.
        private static final int MOST_ROUNDS = 1000000;

        private final Reader reader;
        private final Text text;
        private final Machine machine;
        private final Memory memory;
        private final ArrayList<Line> lines = new ArrayList<>();
        // The lines that have a label.
        final ArrayList<Line> labels = new ArrayList<>();
        private final int[] lastLabels = new int[BUCKETS];
        private final long[] values = new long[MOST_OPERANDS];
        int rounds;

        Program(Reader reader, Machine machine, Memory memory) {
            this.reader = reader;
            this.text = reader.text;
            this.machine = machine;
            this.memory = memory;
        }

        void forget() {
            memory.clear();
            lines.clear();
            labels.clear();
            Arrays.fill(lastLabels, -1);
            rounds = 0;
        }

        /** Reads the lines and gives each its first form. */
        boolean read() {
            reader.begin(true);
            for (int n = 0; n <= text.tokens && !reader.isDone(); n++) {
                readLine();
            }
            for (int i = 0; i < lines.size() && !reader.hasFault(); i++) {
                Line line = lines.get(i);
                if (line.sort == Line.CODE) {
                    findLabelsOf(line);
                    if (!takeNextForm(line)) {
                        reader.failAt(NO_FORM, line.head);
                    }
                }
            }
            return !reader.hasFault();
        }

        private void readLine() {
            int first = reader.at;
            boolean labelled = reader.isAtName() && text.isSign(first + 1, ':');
            if (labelled && labelAt(first) >= 0) {
                reader.fail(WRONG_NAME);
                return;
            }
            int head = labelled ? first + 2 : first;
            reader.at = head;
            int sort = sortAt(head);
            if (labelled || sort != Line.BARE) {
                Line line = new Line(sort, first, head);
                lines.add(line);
                if (labelled) {
                    addLabel(line);
                }
                readStatement(line);
            }
            if (reader.hasFault()) {
                return;
            }
            if (!text.isLineEnd(reader.at)) {
                reader.fail(NOT_EXPECTED);
                return;
            }
            reader.at++;
        }

        private int sortAt(int head) {
            if (text.types[head] == NAME) {
                return Line.CODE;
            }
            if (!text.isSign(head, '.')) {
                return Line.BARE;
            }
            return text.says(head + 1, "at") ? Line.GOING : Line.DATA;
        }

        private void readStatement(Line line) {
            if (line.sort == Line.CODE) {
                skipToLineEnd();
            } else if (line.sort == Line.GOING) {
                reader.at += 2;
                reader.takeNumber(0, ADDRESSES - 1);
            } else if (line.sort == Line.DATA) {
                reader.at++;
                readWords(line);
            }
        }

        private void skipToLineEnd() {
            int t = reader.at;
            while (t < text.tokens && text.types[t] != LINE_END) {
                t++;
            }
            reader.at = t;
        }

        private void readWords(Line line) {
            if (!text.says(reader.at, "word")) {
                reader.fail(NOT_EXPECTED);
                return;
            }
            boolean more = true;
            for (int n = 0; n <= text.tokens && more; n++) {
                reader.at++;
                reader.takeNumber(0, machine.highestWord());
                line.words++;
                more = !reader.hasFault() && reader.isAt(',');
            }
        }

        private void addLabel(Line line) {
            int bucket = text.hash(line.first) & BUCKETS - 1;
            line.olderLabel = lastLabels[bucket];
            lastLabels[bucket] = labels.size();
            labels.add(line);
        }

        /** The number of the label that the token names; -1 if it is none. */
        private int labelAt(int token) {
            int i = lastLabels[text.hash(token) & BUCKETS - 1];
            while (i >= 0 && i < labels.size()) {
                Line line = labels.get(i);
                if (text.isSame(line.first, token)) {
                    return i;
                }
                i = Math.min(i - 1, line.olderLabel);
            }
            return -1;
        }

        private void findLabelsOf(Line line) {
            for (int t = line.head + 1; t < text.tokens && text.types[t] != LINE_END; t++) {
                if (text.types[t] == NAME) {
                    text.worths[t] = labelAt(t);
                }
            }
        }

        private boolean takeNextForm(Line line) {
            for (int i = line.form + 1; i < machine.instructionCount; i++) {
                Instruction form = machine.instructions[i];
                if (form.mnemonic.bytesBehind(text, line.head) == 0 && isWrittenAs(line, form)) {
                    line.form = i;
                    line.words = form.wordCount;
                    return true;
                }
            }
            return false;
        }

        /** Whether the line has the form's parts; notes where its operands begin. */
        private boolean isWrittenAs(Line line, Instruction form) {
            int t = line.head + 1;
            for (int p = 0; p < form.partCount; p++) {
                int part = form.parts[p];
                int next = t + 1;
                if (part >= 0) {
                    if (!text.isSign(t, part)) {
                        return false;
                    }
                } else {
                    next = operandEnd(form.operandKinds[-1 - part], t);
                    if (next < 0) {
                        return false;
                    }
                    line.operandsAt[-1 - part] = t;
                }
                t = next;
            }
            return text.isLineEnd(t);
        }

        /** The token behind the operand that begins at one; -1 if none does. */
        private int operandEnd(Kind wanted, int t) {
            if (wanted.sort == REG) {
                return wanted.registerAt(text, t) < 0 ? -1 : t + 1;
            }
            if (wanted.sort == SET) {
                return wanted.memberAt(text, t) < 0 ? -1 : t + 1;
            }
            if (text.types[t] == NUMBER) {
                return t + 1;
            }
            if (text.isSign(t, '-')) {
                return text.types[t + 1] == NUMBER ? t + 2 : -1;
            }
            if (text.types[t] != NAME || text.worths[t] < 0) {
                return -1;
            }
            return hasTail(t) ? t + 3 : t + 1;
        }

        /** Whether + or - and a number stand behind a label. */
        private boolean hasTail(int t) {
            return (text.isSign(t + 1, '+') || text.isSign(t + 1, '-'))
                && text.types[t + 2] == NUMBER;
        }

        private long operandAt(Kind wanted, int t) {
            if (wanted.sort == REG) {
                return wanted.registerAt(text, t);
            }
            if (wanted.sort == SET) {
                return wanted.memberAt(text, t);
            }
            if (text.types[t] == NUMBER) {
                return text.worths[t];
            }
            if (text.types[t] == SIGN) {
                return -text.worths[t + 1];
            }
            int label = (int) text.worths[t];
            long address = label >= 0 && label < labels.size() ? labels.get(label).address : 0;
            if (!hasTail(t)) {
                return address;
            }
            long tail = text.worths[t + 2];
            return text.isSign(t + 1, '+') ? address + tail : address - tail;
        }

        /** Goes round until the values of all lines fit into their forms. */
        boolean settle() {
            for (int round = 1; round <= MOST_ROUNDS && !reader.hasFault(); round++) {
                giveAddresses();
                if (!reader.hasFault() && !moveMisfits()) {
                    rounds = round;
                    return !reader.hasFault();
                }
            }
            return false;
        }

        private void giveAddresses() {
            int address = 0;
            for (int i = 0; i < lines.size(); i++) {
                Line line = lines.get(i);
                line.address = address;
                if (line.sort == Line.GOING) {
                    address = (int) text.worths[line.head + 2];
                }
                address += line.words;
                if (line.words > 0 && address > ADDRESSES) {
                    reader.failAt(WRONG_NUMBER, line.head);
                    return;
                }
            }
        }

        /** Gives the lines that do not fit their next form: whether there were any. */
        private boolean moveMisfits() {
            boolean moved = false;
            for (int i = 0; i < lines.size(); i++) {
                Line line = lines.get(i);
                if (line.sort == Line.CODE && !fits(line)) {
                    moved = true;
                    if (!takeNextForm(line)) {
                        reader.failAt(NO_MORE_FORM, line.head);
                        return true;
                    }
                }
            }
            return moved;
        }

        private boolean fits(Line line) {
            Instruction form = machine.instructions[line.form];
            for (int k = 0; k < form.operandCount; k++) {
                Kind wanted = form.operandKinds[k];
                if (wanted.isNumber() && !wanted.holds(heldValue(line, wanted, k))) {
                    return false;
                }
            }
            return true;
        }

        private long heldValue(Line line, Kind wanted, int k) {
            long value = operandAt(wanted, line.operandsAt[k]);
            return wanted.sort == REL ? value - line.address : value;
        }

        boolean layDown() {
            for (int i = 0; i < lines.size(); i++) {
                Line line = lines.get(i);
                if (!isFree(line)) {
                    reader.failAt(LAID_TWICE, line.first);
                    return false;
                }
                if (line.sort == Line.CODE) {
                    layInstruction(line);
                } else if (line.sort == Line.DATA) {
                    layNumbers(line);
                }
            }
            return true;
        }

        private boolean isFree(Line line) {
            for (int w = 0; w < line.words; w++) {
                if (memory.laid[line.address + w]) {
                    return false;
                }
            }
            return true;
        }

        private void layInstruction(Line line) {
            Instruction form = machine.instructions[line.form];
            for (int k = 0; k < form.operandCount; k++) {
                values[k] = heldValue(line, form.operandKinds[k], k);
            }
            for (int w = 0; w < form.wordCount; w++) {
                memory.put(line.address + w, form.encode(w, values));
            }
        }

        private void layNumbers(Line line) {
            // Behind . and word stand the numbers, each with a comma before the next.
            int t = line.head + 2;
            for (int w = 0; w < line.words; w++) {
                memory.put(line.address + w, text.worths[t + 2 * w]);
            }
        }
    }

    /** THE LISTING, and how it is written. */
    private static final class Listing {
        // A mnemonic, its blank, five registers with long names and seven commas need 145.
        private static final int MOST_LETTERS = 200;
        private static final int MOST_DIGITS = 20;

        private final Machine machine;
        private final Memory memory;
        private final long[] codes = new long[MOST_OPERANDS];
        private final byte[] digits = new byte[MOST_DIGITS];
        final byte[] bytes = new byte[MOST_LETTERS];
        int length;
        int instruction = -1;

        Listing(Machine machine, Memory memory) {
            this.machine = machine;
            this.memory = memory;
        }

        private void addByte(int value) {
            if (length < MOST_LETTERS) {
                bytes[length] = (byte) value;
                length++;
            }
        }

        private void addText(String added) {
            for (int i = 0; i < added.length(); i++) {
                addByte(added.charAt(i));
            }
        }

        private void addName(Name added) {
            for (int i = 0; i < added.letters.length; i++) {
                addByte(added.letters[i]);
            }
        }

        private void addNumber(long value) {
            if (value < 0) {
                addByte('-');
            }
            long left = value < 0 ? -value : value;
            int count = 0;
            do {
                digits[count] = (byte) ('0' + left % 10);
                left /= 10;
                count++;
            } while (left > 0 && count < MOST_DIGITS);
            for (int i = count - 1; i >= 0; i--) {
                addByte(digits[i]);
            }
        }

        long eightFrom(int at) {
            long eight = 0;
            for (int i = at; i < at + LISTED_BYTES; i++) {
                eight = eight << 8 | (i < length ? bytes[i] & 255 : 0);
            }
            return eight;
        }

        /** Lists an address where a word is laid down: how many words that has. */
        int show(int address) {
            int best = bestFor(address);
            length = 0;
            instruction = best;
            if (best < 0) {
                addText(".word ");
                addNumber(memory.words[address]);
                return 1;
            }
            Instruction shown = machine.instructions[best];
            shown.decode(memory.words, address, codes);
            addName(shown.mnemonic);
            if (shown.partCount > 0) {
                addByte(' ');
            }
            for (int p = 0; p < shown.partCount; p++) {
                addPart(shown, shown.parts[p], address);
            }
            return shown.wordCount;
        }

        private int bestFor(int address) {
            int best = -1;
            int mostDigits = -1;
            for (int i = 0; i < machine.instructionCount; i++) {
                Instruction tried = machine.instructions[i];
                if (tried.digitCount > mostDigits && standsAt(tried, address)) {
                    best = i;
                    mostDigits = tried.digitCount;
                }
            }
            return best;
        }

        private boolean standsAt(Instruction tried, int address) {
            for (int w = 0; w < tried.wordCount; w++) {
                if (!memory.has(address + w)
                    || (memory.words[address + w] & tried.masks[w]) != tried.digits[w]) {
                    return false;
                }
            }
            tried.decode(memory.words, address, codes);
            for (int k = 0; k < tried.operandCount; k++) {
                if (!tried.operandKinds[k].has(codes[k])) {
                    return false;
                }
            }
            return true;
        }

        private void addPart(Instruction shown, int part, int address) {
            if (part < 0) {
                int k = -1 - part;
                addOperand(shown.operandKinds[k], codes[k], address);
                return;
            }
            addByte(part);
            if (part == ',') {
                addByte(' ');
            }
        }

        private void addOperand(Kind shown, long code, int address) {
            if (shown.sort == SET) {
                addName(shown.members[(int) code]);
                return;
            }
            if (shown.sort == REG) {
                addName(shown.written);
            }
            addNumber(shown.sort == REL ? address + shown.valueOf(code) : shown.valueOf(code));
        }
    }
}
