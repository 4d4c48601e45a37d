import java.util.Arrays;
import java.util.NoSuchElementException;

/**
 * A tool chain for segments of 16-bit code: an assembler that sizes its jumps, object modules, a
 * linker that combines segments and solves fixups, a loader, and a machine that runs the bytes.
 */
public final class SegmentBench {
    private static final int MOST_TEXT = 480;
    private static final int MODULES = 3;
    private static final int MOST_NAMES = 24;
    private static final int MOST_BYTES = 400;
    private static final int MOST_IMAGE = 1200;
    private static final int MOST_FUEL = 400;
    private static final int MOST_PARAGRAPH = 255;

    private final char[] text;
    private int length;
    private int kind;
    private int place;
    private final Names names;
    private final Tokens tokens;
    private final Parser parser;
    private final Layout layout;
    private final ObjectModule[] modules;
    private final Linker linker;
    private final Image image;
    private final Machine machine;

    /** No text, modules or image; a machine that is all 0 and has halted. */
    public SegmentBench() {
        text = new char[MOST_TEXT];
        length = 0;
        kind = -1;
        place = -1;
        names = new Names();
        tokens = new Tokens(names);
        Draft draft = new Draft();
        parser = new Parser(tokens, draft);
        layout = new Layout(draft, names);
        modules = new ObjectModule[MODULES];
        for (int i = 0; i < MODULES; i++) {
            modules[i] = new ObjectModule();
        }
        linker = new Linker(modules);
        image = new Image();
        machine = new Machine();
    }

    /** Brings the n lowest bytes of v, the highest of them first, to the text. */
    public int append(long v, int n) throws IllegalArgumentException, IndexOutOfBoundsException {
        if (n < 1 || n > 8) {
            throw new IllegalArgumentException("n is not 1 .. 8");
        }
        for (int i = 0; i < n; i++) {
            int sign = byteOf(v, i);
            if (sign < 32 || sign > 126) {
                throw new IllegalArgumentException("a byte is not 32 .. 126");
            }
        }
        if (length + n > MOST_TEXT) {
            throw new IndexOutOfBoundsException("the text is full");
        }
        for (int i = n - 1; i >= 0; i--) {
            text[length] = (char) byteOf(v, i);
            length++;
        }
        return length;
    }

    /** Makes a module of the text, which is empty then, whatever comes of it. */
    public int assemble(int module) throws IllegalArgumentException, UnsupportedOperationException,
            NoSuchElementException, IndexOutOfBoundsException, ArithmeticException {
        if (!isModule(module)) {
            throw new IllegalArgumentException("module is not 0 .. 2");
        }
        tokens.read(text, length);
        length = 0;
        int stop = parser.parse();
        if (stop >= 0) {
            tell(1, stop);
            throw new UnsupportedOperationException("syntax");
        }
        int wrong = layout.firstWrong();
        if (wrong >= 0) {
            tell(2, wrong);
            throw new NoSuchElementException("a name is wrong");
        }
        int bytes = layout.sizeJumps();
        if (bytes > MOST_BYTES) {
            tell(4, -1);
            throw new IndexOutOfBoundsException("too many bytes");
        }
        int far = layout.firstTooFar();
        if (far >= 0) {
            tell(3, far);
            throw new ArithmeticException("a label is too far");
        }
        layout.write(modules[module]);
        tell(-1, -1);
        return bytes;
    }

    /** Takes a module away and answers whether it was there. */
    public boolean drop(int module) throws IllegalArgumentException {
        if (!isModule(module)) {
            throw new IllegalArgumentException("module is not 0 .. 2");
        }
        boolean was = modules[module].there;
        modules[module].clear();
        return was;
    }

    /** Makes the image of the modules that are there; one that fails leaves the image before. */
    public int link() throws IllegalStateException, UnsupportedOperationException,
            NoSuchElementException, IndexOutOfBoundsException, ArithmeticException {
        if (!linker.hasModules()) {
            throw new IllegalStateException("no module is there");
        }
        int twice = linker.firstPublicTwice();
        if (twice >= 0) {
            tell(5, twice);
            throw new UnsupportedOperationException("a name is public twice");
        }
        int open = linker.firstUnsolved();
        if (open >= 0) {
            tell(6, open);
            throw new NoSuchElementException("an extern is public nowhere");
        }
        if (!linker.hasMain()) {
            tell(8, -1);
            throw new NoSuchElementException("main is public nowhere");
        }
        int bytes = linker.combine();
        if (bytes > MOST_IMAGE) {
            tell(9, -1);
            throw new IndexOutOfBoundsException("the image is too long");
        }
        int apart = linker.firstApart();
        if (apart >= 0) {
            tell(7, apart);
            throw new ArithmeticException("a near name lies in another segment");
        }
        linker.write(image, bytes);
        tell(-1, -1);
        return bytes;
    }

    /** Puts the image into the memory and makes the machine ready at main. */
    public int load(int paragraph) throws IllegalArgumentException, IllegalStateException {
        if (paragraph < 0 || paragraph > MOST_PARAGRAPH) {
            throw new IllegalArgumentException("paragraph is not 0 .. 255");
        }
        if (!image.there) {
            throw new IllegalStateException("there is no image");
        }
        machine.start(image, paragraph);
        return machine.ip;
    }

    /** Does at most fuel instructions; answers 0 hlt, 1 divide, 2 undefined, 3 fuel were done. */
    public int run(int fuel) throws IllegalArgumentException, IllegalStateException {
        if (fuel < 1 || fuel > MOST_FUEL) {
            throw new IllegalArgumentException("fuel is not 1 .. 400");
        }
        if (machine.halted) {
            throw new IllegalStateException("the machine has halted");
        }
        return machine.go(fuel);
    }

    /** A byte of a module's segment. */
    public int code(int module, int segment, int i) throws IndexOutOfBoundsException {
        if (!isModule(module)) {
            throw new IndexOutOfBoundsException("there is no such module");
        }
        ObjectModule from = modules[module];
        if (segment < 0 || segment >= from.segments) {
            throw new IndexOutOfBoundsException("there is no such segment");
        }
        if (i < 0 || i >= from.segmentSize[segment]) {
            throw new IndexOutOfBoundsException("there is no such byte");
        }
        return from.bytes[from.segmentStart[segment] + i];
    }

    /** What a module's fixup is: 0 its kind, 1 its segment, 2 its place, 3 the segment meant. */
    public int fixup(int module, int i, int what)
            throws IllegalArgumentException, IndexOutOfBoundsException {
        if (what < 0 || what > 3) {
            throw new IllegalArgumentException("what is not 0 .. 3");
        }
        if (!isModule(module)) {
            throw new IndexOutOfBoundsException("there is no such module");
        }
        ObjectModule from = modules[module];
        if (i < 0 || i >= from.fixups) {
            throw new IndexOutOfBoundsException("there is no such fixup");
        }
        switch (what) {
            case 0:
                return from.fixupKind[i];
            case 1:
                return from.fixupSegment[i];
            case 2:
                return from.fixupPlace[i];
            default:
                return from.fixupAbout[i];
        }
    }

    /** A byte of the image. */
    public int image(int i) throws IndexOutOfBoundsException {
        if (i < 0 || i >= image.size) {
            throw new IndexOutOfBoundsException("there is no such byte");
        }
        return image.bytes[i];
    }

    /** A byte of the machine's memory. */
    public int memory(int address) throws IllegalArgumentException {
        if (address < 0 || address >= Machine.MEMORY) {
            throw new IllegalArgumentException("address is not 0 .. 4095");
        }
        return machine.cells[address];
    }

    /** 0 .. 7 a register, 8 .. 11 a segment register, 12 IP, 13 C, 14 Z, 15 S. */
    public int register(int register) throws IllegalArgumentException {
        if (register < 0 || register > 15) {
            throw new IllegalArgumentException("register is not 0 .. 15");
        }
        if (register < 8) {
            return machine.general[register];
        }
        if (register < 12) {
            return machine.segment[register - 8];
        }
        switch (register) {
            case 12:
                return machine.ip;
            case 13:
                return machine.carry;
            case 14:
                return machine.zero;
            default:
                return machine.sign;
        }
    }

    /** One of the first 30 ints since the latest load: 65536 times its number plus ax. */
    public int trace(int i) throws IndexOutOfBoundsException {
        if (i < 0 || i >= Machine.MOST_TOLD || i >= machine.ints) {
            throw new IndexOutOfBoundsException("there is no such int");
        }
        return machine.told[i];
    }

    /** One of the numbers about the text, the last failure, the image, the machine, the modules. */
    public int count(int what) throws IllegalArgumentException {
        if (what < 0 || what > 13) {
            throw new IllegalArgumentException("what is not 0 .. 13");
        }
        if (what >= 11) {
            return modules[what - 11].fixups;
        }
        if (what >= 8) {
            return modules[what - 8].segments;
        }
        switch (what) {
            case 0:
                return length;
            case 1:
                return kind;
            case 2:
                return place;
            case 3:
                return image.size;
            case 4:
                return image.relocations;
            case 5:
                return machine.done;
            case 6:
                return machine.ints;
            default:
                return machine.halted ? 1 : 0;
        }
    }

    private void tell(int newKind, int newPlace) {
        kind = newKind;
        place = newPlace;
    }

    private static boolean isModule(int module) {
        return module >= 0 && module < MODULES;
    }

    private static int byteOf(long v, int i) {
        return (int) (v >>> (8 * i)) & 255;
    }

    private static int roundUp(int value, int align) {
        return (value + align - 1) & -align;
    }

    /** The different names of a text, in the order of their first places, and what they are made. */
    private static final class Names {
        static final int NOTHING = 0;
        static final int SEGMENT = 1;
        static final int LABEL = 2;
        static final int EXTERN = 3;
        /** A name takes a sign and what parts it from the next. */
        private static final int ROOM = MOST_TEXT / 2;

        final long[] word;
        final int[] role;
        /** The segment's number: of a segment its own, of a label the one it is in, else -1. */
        final int[] segment;
        final int[] align;
        final int[] offset;
        int size;
        /** Where the first name too many stands, -1 if there is none. */
        int crowdedAt;

        Names() {
            word = new long[ROOM];
            role = new int[ROOM];
            segment = new int[ROOM];
            align = new int[ROOM];
            offset = new int[ROOM];
            size = 0;
            crowdedAt = -1;
        }

        void clear() {
            size = 0;
            crowdedAt = -1;
        }

        /** The number of a name, which is a new one if it has not been seen yet. */
        int numberOf(long packed, int at) {
            for (int i = 0; i < size; i++) {
                if (word[i] == packed) {
                    return i;
                }
            }
            if (size >= ROOM) {
                return ROOM - 1;
            }
            word[size] = packed;
            role[size] = NOTHING;
            segment[size] = -1;
            align[size] = 0;
            offset[size] = 0;
            size++;
            if (size == MOST_NAMES + 1) {
                crowdedAt = at;
            }
            return size - 1;
        }

        void make(int name, int newRole, int newSegment) {
            role[name] = newRole;
            segment[name] = newSegment;
        }
    }

    /** The tokens of a text, the last of them its end; a sign that is none is a token of its own. */
    private static final class Tokens {
        /** Kinds below the signs, whose kind is their own character. */
        static final int END = 0;
        static final int NONE = 1;
        static final int NUMBER = 2;
        static final int NAME = 3;
        static final int REGISTER = 4;
        static final int SREGISTER = 5;
        static final int WORD = 6;

        private static final int MOST_LETTERS = 6;
        private static final int MOST_NUMBER = 65535;
        private static final String SIGNS = ":;,[]+-@";
        private static final String REGISTERS = "ax cx dx bx sp bp si di";
        private static final String SREGISTERS = "es cs ss ds";
        /** The order is that of Parser.FORM and Parser.CODE. */
        private static final String STATEMENTS = "seg public extern word byte space mov add or and sub xor cmp inc dec push pop shl shr neg mul div jmp jc jnc jz jnz js jns loop call callf ret retf int hlt";

        final int[] type;
        final int[] value;
        final int[] place;
        int size;
        private final Names names;

        Tokens(Names names) {
            type = new int[MOST_TEXT + 1];
            value = new int[MOST_TEXT + 1];
            place = new int[MOST_TEXT + 1];
            size = 0;
            this.names = names;
        }

        void read(char[] text, int length) {
            size = 0;
            names.clear();
            int at = 0;
            for (int step = 0; step < length && at < length; step++) {
                char sign = text[at];
                if (isLetter(sign)) {
                    at = readWord(text, at, length);
                } else if (isDigit(sign)) {
                    at = readNumber(text, at, length);
                } else {
                    if (sign != ' ') {
                        put(SIGNS.indexOf(sign) >= 0 ? sign : NONE, 0, at);
                    }
                    at++;
                }
            }
            put(END, 0, length);
        }

        private void put(int newType, int newValue, int at) {
            if (size < type.length) {
                type[size] = newType;
                value[size] = newValue;
                place[size] = at;
                size++;
            }
        }

        private int readNumber(char[] text, int from, int length) {
            int number = 0;
            int end = from;
            while (end < length && isDigit(text[end])) {
                // Held just above the limit, so that no row of digits can wrap.
                number = Math.min(number * 10 + (text[end] - '0'), MOST_NUMBER + 1);
                end++;
            }
            put(number > MOST_NUMBER ? NONE : NUMBER, number, from);
            return end;
        }

        private int readWord(char[] text, int from, int length) {
            int end = from;
            long packed = 0;
            while (end < length && (isLetter(text[end]) || isDigit(text[end]))) {
                packed = packed * 128 + text[end];
                end++;
            }
            if (end - from > MOST_LETTERS) {
                put(NONE, 0, from);
                return end;
            }
            int type = REGISTER;
            int number = ordinal(REGISTERS, text, from, end);
            if (number < 0) {
                type = SREGISTER;
                number = ordinal(SREGISTERS, text, from, end);
            }
            if (number < 0) {
                type = WORD;
                number = ordinal(STATEMENTS, text, from, end);
            }
            if (number < 0) {
                type = NAME;
                number = names.numberOf(packed, from);
            }
            put(type, number, from);
            return end;
        }

        /** Which of the list's words, parted by blanks, text from .. end is; -1 for none. */
        private static int ordinal(String list, char[] text, int from, int end) {
            int ordinal = 0;
            int matched = 0;
            boolean alike = true;
            for (int i = 0; i <= list.length(); i++) {
                if (i == list.length() || list.charAt(i) == ' ') {
                    if (alike && from + matched == end) {
                        return ordinal;
                    }
                    ordinal++;
                    matched = 0;
                    alike = true;
                } else {
                    alike = alike && from + matched < end && text[from + matched] == list.charAt(i);
                    matched++;
                }
            }
            return -1;
        }

        private static boolean isLetter(char sign) {
            return sign >= 'a' && sign <= 'z';
        }

        private static boolean isDigit(char sign) {
            return sign >= '0' && sign <= '9';
        }
    }

    /** What stands at an operand's place of a statement. */
    private static final class Operand {
        static final int REGISTER = 1;
        static final int MEMORY = 2;
        static final int VALUE = 4;
        static final int SREGISTER = 8;
        /** Beside SREGISTER, where cs may stand, too. */
        static final int CS = 16;

        int kind;
        /** A register's code. */
        int code;
        /** A value's number, or the sum of the numbers in brackets. */
        int number;
        int name;
        int namePlace;
        /** Whether @ stands before the name. */
        boolean paragraph;
        /** The code of bx or bp, 0 for none. */
        int base;
        /** The code of si or di, 0 for none. */
        int index;

        Operand() {
            clear(0);
        }

        private void clear(int newKind) {
            kind = newKind;
            code = 0;
            number = 0;
            name = -1;
            namePlace = -1;
            paragraph = false;
            base = 0;
            index = 0;
        }

        boolean isBare() {
            return base == 0 && index == 0;
        }

        /** The b of memory. */
        int mode() {
            if (base == 0) {
                return index == 0 ? 6 : index - 2;
            }
            if (index == 0) {
                return base == Parser.BX ? 7 : 6;
            }
            return (base == Parser.BX ? 0 : 2) + index - Parser.SI;
        }

        int signedNumber() {
            return (short) number;
        }

        /** How many bytes of displacement follow. */
        int displacementSize() {
            if (isBare() || name >= 0) {
                return 2;
            }
            int signed = signedNumber();
            if (signed == 0 && mode() != 6) {
                return 0;
            }
            return Layout.isShort(signed) ? 1 : 2;
        }
    }

    /** A text that has been parsed, as a row of items: what is declared and what becomes bytes. */
    private static final class Draft {
        static final int SEGMENT = 0;
        static final int LABEL = 1;
        static final int PUBLIC = 2;
        static final int EXTERN = 3;
        static final int BYTE = 4;
        static final int SPACE = 5;
        static final int NUMBER = 6;
        static final int OFFSET = 7;
        static final int PARAGRAPH = 8;
        static final int JUMP = 9;
        static final int BRANCH = 10;
        static final int CALL = 11;
        static final int FAR_CALL = 12;
        /** No statement makes more items than half its characters. */
        private static final int ROOM = MOST_TEXT / 2 + 8;

        final int[] type;
        /** An align, a byte, a number, what is added to an offset, a jump's size, a branch's code. */
        final int[] value;
        final int[] name;
        /** Where the name stands. */
        final int[] place;
        /** Where a branch's word stands. */
        final int[] word;
        /** The segment that an item is in, and its offset there. */
        final int[] segment;
        final int[] offset;
        int size;

        Draft() {
            type = new int[ROOM];
            value = new int[ROOM];
            name = new int[ROOM];
            place = new int[ROOM];
            word = new int[ROOM];
            segment = new int[ROOM];
            offset = new int[ROOM];
            size = 0;
        }

        void add(int newType, int newValue, int newName, int newPlace, int newWord) {
            if (size < ROOM) {
                type[size] = newType;
                value[size] = newValue;
                name[size] = newName;
                place[size] = newPlace;
                word[size] = newWord;
                segment[size] = -1;
                offset[size] = 0;
                size++;
            }
        }

        void addByte(int newByte) {
            add(BYTE, newByte & 255, -1, -1, -1);
        }

        void addValue(Operand from) {
            if (from.name < 0) {
                add(NUMBER, from.number, -1, -1, -1);
            } else {
                add(from.paragraph ? PARAGRAPH : OFFSET, from.number, from.name, from.namePlace, -1);
            }
        }

        /** A first byte, then M with a code k. */
        void addWithM(int first, Operand from, int k) {
            addByte(first);
            if (from.kind == Operand.REGISTER) {
                addByte(192 + 8 * k + from.code);
                return;
            }
            int bytes = from.displacementSize();
            addByte(64 * (from.isBare() ? 0 : bytes) + 8 * k + from.mode());
            if (bytes == 1) {
                addByte(from.number);
            } else if (bytes == 2) {
                addValue(from);
            }
        }

        int bytesOf(int item) {
            switch (type[item]) {
                case BYTE:
                    return 1;
                case SPACE:
                case JUMP:
                    return value[item];
                case NUMBER:
                case OFFSET:
                case PARAGRAPH:
                case BRANCH:
                    return 2;
                case CALL:
                    return 3;
                case FAR_CALL:
                    return 5;
                default:
                    return 0;
            }
        }
    }

    /**
     * Goes through the tokens once. A method that answers false has stopped at the token with which
     * the text can't go on: at stays on it.
     */
    private static final class Parser {
        static final int BX = 3;
        static final int SI = 6;
        private static final int BP = 5;
        private static final int DI = 7;
        private static final int CS = 1;

        private static final int SEG = 0;
        private static final int PUBLIC = 1;
        private static final int EXTERN = 2;
        private static final int WORDS = 3;
        private static final int BYTES = 4;
        private static final int SPACE = 5;
        private static final int MOV = 6;
        private static final int ARITHMETIC = 7;
        private static final int STEP = 8;
        private static final int PUSH = 9;
        private static final int POP = 10;
        private static final int SINGLE = 11;
        private static final int JUMP = 12;
        private static final int BRANCH = 13;
        private static final int CALL = 14;
        private static final int FAR_CALL = 15;
        private static final int PLAIN = 16;
        private static final int INT = 17;
        private static final int[] FORM = {
            SEG, PUBLIC, EXTERN, WORDS, BYTES, SPACE, MOV, ARITHMETIC, ARITHMETIC, ARITHMETIC,
            ARITHMETIC, ARITHMETIC, ARITHMETIC, STEP, STEP, PUSH, POP, SINGLE, SINGLE, SINGLE,
            SINGLE, SINGLE, JUMP, BRANCH, BRANCH, BRANCH, BRANCH, BRANCH, BRANCH, BRANCH,
            CALL, FAR_CALL, PLAIN, PLAIN, INT, PLAIN};
        /** The n of arithmetic, 256 k and the byte of a single one, else the byte; 0 where Layout has it. */
        private static final int[] CODE = {
            0, 0, 0, 0, 0, 0, 0, 0, 1, 4,
            5, 6, 7, 64, 72, 80, 88, 256 * 4 + 209, 256 * 5 + 209, 256 * 3 + 247,
            256 * 4 + 247, 256 * 6 + 247, 0, 114, 115, 116, 117, 120, 121, 226,
            0, 0, 195, 203, 205, 244};

        private final Tokens tokens;
        private final Draft draft;
        private final Operand left;
        private final Operand right;
        private int at;
        private boolean opened;

        Parser(Tokens tokens, Draft draft) {
            this.tokens = tokens;
            this.draft = draft;
            left = new Operand();
            right = new Operand();
            at = 0;
            opened = false;
        }

        /** Where the text can't go on, -1 if it is one. */
        int parse() {
            at = 0;
            opened = false;
            draft.size = 0;
            for (int step = 0; step < tokens.size && type() != Tokens.END; step++) {
                boolean goesOn = type() != Tokens.NAME || label();
                if (goesOn && type() == Tokens.WORD) {
                    int word = value();
                    goesOn = mayStand(word) && (FORM[word] < MOV ? directive(FORM[word])
                            : instruction(FORM[word], CODE[word]));
                }
                if (!goesOn || !take(';')) {
                    return tokens.place[at];
                }
            }
            return -1;
        }

        /** The last token is the end, which is never passed, so at is always one. */
        private int type() {
            return tokens.type[at];
        }

        private int value() {
            return tokens.value[at];
        }

        private boolean take(int wanted) {
            if (tokens.type[at] != wanted) {
                return false;
            }
            at++;
            return true;
        }

        private boolean label() {
            if (!opened) {
                return false;
            }
            int token = at;
            at++;
            if (!take(':')) {
                return false;
            }
            addNamed(Draft.LABEL, 0, token);
            return true;
        }

        private void addNamed(int newType, int newValue, int token) {
            draft.add(newType, newValue, tokens.value[token], tokens.place[token], -1);
        }

        /** Whether the word may begin a statement here: before the first seg only three may. */
        private boolean mayStand(int word) {
            return word >= 0 && word < FORM.length && (opened || FORM[word] <= EXTERN);
        }

        private boolean directive(int form) {
            at++;
            switch (form) {
                case SEG:
                    return seg();
                case PUBLIC:
                    return named(Draft.PUBLIC, 0);
                case EXTERN:
                    return named(Draft.EXTERN, 0);
                case WORDS:
                    return words();
                case BYTES:
                    return bytes();
                default:
                    return numbered(Draft.SPACE, 65);
            }
        }

        private boolean instruction(int form, int code) {
            at++;
            switch (form) {
                case MOV:
                    return mov();
                case ARITHMETIC:
                    return arithmetic(code);
                case STEP:
                    return onRegister(code, 0, Operand.REGISTER);
                case PUSH:
                    return onRegister(code, 6, Operand.REGISTER | Operand.SREGISTER | Operand.CS);
                case POP:
                    return onRegister(code, 7, Operand.REGISTER | Operand.SREGISTER);
                case SINGLE:
                    return single(code & 255, code >> 8);
                case JUMP:
                    return named(Draft.JUMP, Layout.SHORT);
                case BRANCH:
                    return named(Draft.BRANCH, code);
                case CALL:
                    return named(Draft.CALL, 0);
                case FAR_CALL:
                    return named(Draft.FAR_CALL, 0);
                case INT:
                    draft.addByte(code);
                    return numbered(Draft.BYTE, 256);
                default:
                    draft.addByte(code);
                    return true;
            }
        }

        private boolean seg() {
            int token = at;
            if (!take(Tokens.NAME)) {
                return false;
            }
            if (type() != Tokens.NUMBER || !isAlign(value())) {
                return false;
            }
            addNamed(Draft.SEGMENT, value(), token);
            at++;
            opened = true;
            return true;
        }

        private static boolean isAlign(int number) {
            return number >= 1 && number <= 16 && Integer.bitCount(number) == 1;
        }

        /** A NAME; the word before it is the one that a branch tells. */
        private boolean named(int newType, int newValue) {
            int token = at;
            if (!take(Tokens.NAME)) {
                return false;
            }
            int word = token > 0 ? tokens.place[token - 1] : -1;
            draft.add(newType, newValue, tokens.value[token], tokens.place[token], word);
            return true;
        }

        /** A NUMBER below a limit. */
        private boolean numbered(int newType, int limit) {
            if (type() != Tokens.NUMBER || value() >= limit) {
                return false;
            }
            draft.add(newType, value(), -1, -1, -1);
            at++;
            return true;
        }

        private boolean words() {
            for (int step = 0; step < tokens.size; step++) {
                if (!operand(left, Operand.VALUE)) {
                    return false;
                }
                draft.addValue(left);
                if (!take(',')) {
                    return true;
                }
            }
            return false;
        }

        private boolean bytes() {
            for (int step = 0; step < tokens.size; step++) {
                if (!numbered(Draft.BYTE, 256)) {
                    return false;
                }
                if (!take(',')) {
                    return true;
                }
            }
            return false;
        }

        private boolean mov() {
            if (!operand(left, Operand.REGISTER | Operand.MEMORY | Operand.SREGISTER) || !take(',')) {
                return false;
            }
            int allowed = Operand.REGISTER | Operand.VALUE | Operand.SREGISTER | Operand.CS;
            if (left.kind == Operand.REGISTER) {
                allowed = allowed | Operand.MEMORY;
            } else if (left.kind == Operand.SREGISTER) {
                allowed = Operand.REGISTER | Operand.MEMORY;
            }
            if (!operand(right, allowed)) {
                return false;
            }
            if (left.kind == Operand.SREGISTER) {
                draft.addWithM(142, right, left.code);
            } else if (right.kind == Operand.SREGISTER) {
                draft.addWithM(140, left, right.code);
            } else if (right.kind == Operand.VALUE) {
                if (left.kind == Operand.REGISTER) {
                    draft.addByte(184 + left.code);
                } else {
                    draft.addWithM(199, left, 0);
                }
                draft.addValue(right);
            } else if (left.kind == Operand.REGISTER) {
                draft.addWithM(139, right, left.code);
            } else {
                draft.addWithM(137, left, right.code);
            }
            return true;
        }

        private boolean arithmetic(int n) {
            if (!operand(left, Operand.REGISTER | Operand.MEMORY) || !take(',')) {
                return false;
            }
            int allowed = Operand.REGISTER | Operand.VALUE;
            if (left.kind == Operand.REGISTER) {
                allowed = allowed | Operand.MEMORY;
            }
            if (!operand(right, allowed)) {
                return false;
            }
            if (right.kind == Operand.VALUE) {
                draft.addWithM(129, left, n);
                draft.addValue(right);
            } else if (left.kind == Operand.REGISTER) {
                draft.addWithM(8 * n + 3, right, left.code);
            } else {
                draft.addWithM(8 * n + 1, left, right.code);
            }
            return true;
        }

        /** One byte in which a register's code is: code plus that, of an sregister s plus 8 times. */
        private boolean onRegister(int code, int s, int allowed) {
            if (!operand(left, allowed)) {
                return false;
            }
            draft.addByte(left.kind == Operand.REGISTER ? code + left.code : s + 8 * left.code);
            return true;
        }

        private boolean single(int first, int k) {
            if (!operand(left, Operand.REGISTER | Operand.MEMORY)) {
                return false;
            }
            draft.addWithM(first, left, k);
            return true;
        }

        private boolean operand(Operand to, int allowed) {
            switch (type()) {
                case Tokens.REGISTER:
                    return (allowed & Operand.REGISTER) != 0 && coded(to, Operand.REGISTER);
                case Tokens.SREGISTER:
                    int wanted = value() == CS ? Operand.CS : Operand.SREGISTER;
                    return (allowed & wanted) != 0 && coded(to, Operand.SREGISTER);
                case '[':
                    return (allowed & Operand.MEMORY) != 0 && brackets(to);
                case Tokens.NUMBER:
                case Tokens.NAME:
                case '@':
                    return (allowed & Operand.VALUE) != 0 && plainValue(to);
                default:
                    return false;
            }
        }

        private boolean coded(Operand to, int newKind) {
            to.clear(newKind);
            to.code = value();
            at++;
            return true;
        }

        private boolean plainValue(Operand to) {
            to.clear(Operand.VALUE);
            if (type() == Tokens.NUMBER) {
                to.number = value();
                at++;
                return true;
            }
            to.paragraph = take('@');
            to.name = value();
            to.namePlace = tokens.place[at];
            return take(Tokens.NAME);
        }

        private boolean brackets(Operand to) {
            to.clear(Operand.MEMORY);
            at++;
            if (!part(to)) {
                return false;
            }
            for (int step = 0; step < tokens.size && type() != ']'; step++) {
                if (take('-')) {
                    if (type() != Tokens.NUMBER) {
                        return false;
                    }
                    to.number -= value();
                    at++;
                } else if (!take('+') || !part(to)) {
                    return false;
                }
            }
            to.number = to.number & 65535;
            return take(']');
        }

        private boolean part(Operand to) {
            int type = tokens.type[at];
            int value = tokens.value[at];
            if (type == Tokens.NUMBER) {
                to.number += value;
            } else if (type == Tokens.NAME && to.name < 0) {
                to.name = value;
                to.namePlace = tokens.place[at];
            } else if (type != Tokens.REGISTER) {
                return false;
            } else if ((value == BX || value == BP) && to.base == 0) {
                to.base = value;
            } else if ((value == SI || value == DI) && to.index == 0) {
                to.index = value;
            } else {
                return false;
            }
            at++;
            return true;
        }
    }

    /** Judges the names of a draft, sizes its jumps, and writes it into a module. */
    private static final class Layout {
        static final int SHORT = 2;
        private static final int NEAR = 3;
        /** A seg takes eight characters of the text. */
        private static final int MOST_SEGMENTS = MOST_TEXT / 8;

        private final Draft draft;
        private final Names names;
        private final int[] segmentName;
        private final int[] segmentSize;
        private int segments;
        private int wrong;

        Layout(Draft draft, Names names) {
            this.draft = draft;
            this.names = names;
            segmentName = new int[MOST_SEGMENTS];
            segmentSize = new int[MOST_SEGMENTS];
            segments = 0;
            wrong = -1;
        }

        static boolean isShort(int distance) {
            return distance >= -128 && distance <= 127;
        }

        /** Where the first wrong name stands, -1 if there is none. */
        int firstWrong() {
            wrong = names.crowdedAt;
            declareAll();
            for (int i = 0; i < draft.size; i++) {
                if (!isUseRight(i)) {
                    blame(draft.place[i]);
                }
            }
            return wrong;
        }

        private void blame(int place) {
            if (wrong < 0 || place < wrong) {
                wrong = place;
            }
        }

        private void declareAll() {
            segments = 0;
            int current = -1;
            for (int i = 0; i < draft.size; i++) {
                switch (draft.type[i]) {
                    case Draft.SEGMENT:
                        current = openSegment(i, current);
                        break;
                    case Draft.LABEL:
                        declare(i, Names.LABEL, current);
                        break;
                    case Draft.EXTERN:
                        declare(i, Names.EXTERN, -1);
                        break;
                    default:
                        break;
                }
                draft.segment[i] = current;
            }
        }

        /** Whether an item may make its name something new; if not, the name is wrong there. */
        private boolean mayDeclare(int item) {
            int place = draft.place[item];
            if (names.role[draft.name[item]] == Names.NOTHING && place != names.crowdedAt) {
                return true;
            }
            blame(place);
            return false;
        }

        private void declare(int item, int role, int segment) {
            if (mayDeclare(item)) {
                names.make(draft.name[item], role, segment);
            }
        }

        /** The segment in which the text goes on behind a seg. */
        private int openSegment(int item, int current) {
            int name = draft.name[item];
            int align = draft.value[item];
            if (names.role[name] == Names.SEGMENT && names.align[name] == align) {
                return names.segment[name];
            }
            if (!mayDeclare(item) || segments >= MOST_SEGMENTS) {
                return current;
            }
            names.make(name, Names.SEGMENT, segments);
            names.align[name] = align;
            segmentName[segments] = name;
            segments++;
            return segments - 1;
        }

        private boolean isUseRight(int item) {
            int name = draft.name[item];
            if (name < 0) {
                return true;
            }
            int role = names.role[name];
            boolean isHere = role == Names.LABEL && names.segment[name] == draft.segment[item];
            switch (draft.type[item]) {
                case Draft.PUBLIC:
                    return role == Names.LABEL;
                case Draft.OFFSET:
                case Draft.PARAGRAPH:
                    return role != Names.NOTHING;
                case Draft.BRANCH:
                    return isHere;
                case Draft.JUMP:
                case Draft.CALL:
                    return isHere || role == Names.EXTERN;
                case Draft.FAR_CALL:
                    return role == Names.LABEL || role == Names.EXTERN;
                default:
                    return true;
            }
        }

        /**
         * Makes as few jumps near as can be and answers the bytes of all segments. A jump that grows
         * brings no two places nearer, so one that is too far once stays so.
         */
        int sizeJumps() {
            for (int round = 0; round <= draft.size; round++) {
                measure();
                if (!growJumps()) {
                    break;
                }
            }
            int bytes = 0;
            for (int s = 0; s < segments; s++) {
                bytes += segmentSize[s];
            }
            return bytes;
        }

        private void measure() {
            Arrays.fill(segmentSize, 0);
            for (int i = 0; i < draft.size; i++) {
                int segment = draft.segment[i];
                if (segment >= 0) {
                    draft.offset[i] = segmentSize[segment];
                    segmentSize[segment] += draft.bytesOf(i);
                    if (draft.type[i] == Draft.LABEL) {
                        names.offset[draft.name[i]] = draft.offset[i];
                    }
                }
            }
        }

        private boolean growJumps() {
            boolean grew = false;
            for (int i = 0; i < draft.size; i++) {
                if (draft.type[i] == Draft.JUMP && draft.value[i] == SHORT
                        && (isExtern(i) || !isShort(distance(i)))) {
                    draft.value[i] = NEAR;
                    grew = true;
                }
            }
            return grew;
        }

        private boolean isExtern(int item) {
            return names.role[draft.name[item]] == Names.EXTERN;
        }

        /** From behind an item to its label. */
        private int distance(int item) {
            return names.offset[draft.name[item]] - draft.offset[item] - draft.bytesOf(item);
        }

        /** Where the word of the first branch stands that does not reach its label, or -1. */
        int firstTooFar() {
            for (int i = 0; i < draft.size; i++) {
                if (draft.type[i] == Draft.BRANCH && !isShort(distance(i))) {
                    return draft.word[i];
                }
            }
            return -1;
        }

        void write(ObjectModule to) {
            to.clear();
            to.there = true;
            for (int s = 0; s < segments; s++) {
                int name = segmentName[s];
                to.addSegment(names.word[name], names.align[name], segmentSize[s]);
            }
            for (int i = 0; i < draft.size; i++) {
                if (draft.type[i] == Draft.PUBLIC) {
                    int name = draft.name[i];
                    to.addPublic(names.word[name], names.segment[name], names.offset[name]);
                } else if (draft.segment[i] >= 0) {
                    writeItem(to, i);
                }
            }
        }

        private void writeItem(ObjectModule to, int item) {
            int segment = draft.segment[item];
            int offset = draft.offset[item];
            int value = draft.value[item];
            switch (draft.type[item]) {
                case Draft.BYTE:
                    to.putByte(segment, offset, value);
                    break;
                case Draft.NUMBER:
                    to.putWord(segment, offset, value);
                    break;
                case Draft.OFFSET:
                    writeOffset(to, item, offset);
                    break;
                case Draft.PARAGRAPH:
                    writeFixup(to, item, offset, ObjectModule.PARAGRAPH);
                    break;
                case Draft.BRANCH:
                    to.putByte(segment, offset, value);
                    to.putByte(segment, offset + 1, distance(item));
                    break;
                case Draft.JUMP:
                    writeJump(to, item);
                    break;
                case Draft.CALL:
                    to.putByte(segment, offset, 232);
                    writeNear(to, item);
                    break;
                case Draft.FAR_CALL:
                    to.putByte(segment, offset, 154);
                    writeOffset(to, item, offset + 1);
                    writeFixup(to, item, offset + 3, ObjectModule.PARAGRAPH);
                    break;
                default:
                    break;
            }
        }

        private void writeOffset(ObjectModule to, int item, int at) {
            int name = draft.name[item];
            int offset = names.role[name] == Names.LABEL ? names.offset[name] : 0;
            to.putWord(draft.segment[item], at, draft.value[item] + offset);
            writeFixup(to, item, at, ObjectModule.OFFSET);
        }

        private void writeFixup(ObjectModule to, int item, int at, int fixupKind) {
            int name = draft.name[item];
            to.addFixup(fixupKind, draft.segment[item], at, names.segment[name], names.word[name]);
        }

        private void writeJump(ObjectModule to, int item) {
            int segment = draft.segment[item];
            int offset = draft.offset[item];
            if (draft.value[item] == NEAR) {
                to.putByte(segment, offset, 233);
                writeNear(to, item);
            } else {
                to.putByte(segment, offset, 235);
                to.putByte(segment, offset + 1, distance(item));
            }
        }

        /** The two bytes behind the first of a jump or call. */
        private void writeNear(ObjectModule to, int item) {
            int at = draft.offset[item] + 1;
            if (isExtern(item)) {
                writeFixup(to, item, at, ObjectModule.NEAR);
            } else {
                to.putWord(draft.segment[item], at, distance(item));
            }
        }
    }

    /** An object module: segments with their bytes, fixups, public names. */
    private static final class ObjectModule {
        static final int OFFSET = 0;
        static final int PARAGRAPH = 1;
        static final int NEAR = 2;
        static final int MOST_FIXUPS = MOST_BYTES / 2;

        boolean there;
        int segments;
        final long[] segmentName;
        final int[] segmentAlign;
        final int[] segmentSize;
        /** Where a segment's bytes begin among all bytes. */
        final int[] segmentStart;
        final int[] bytes;
        int fixups;
        final int[] fixupKind;
        final int[] fixupSegment;
        final int[] fixupPlace;
        /** The segment that a fixup is about, -1 for an extern. */
        final int[] fixupAbout;
        final long[] fixupName;
        int publics;
        final long[] publicName;
        final int[] publicSegment;
        final int[] publicOffset;

        ObjectModule() {
            there = false;
            segments = 0;
            segmentName = new long[MOST_NAMES];
            segmentAlign = new int[MOST_NAMES];
            segmentSize = new int[MOST_NAMES];
            segmentStart = new int[MOST_NAMES];
            bytes = new int[MOST_BYTES];
            fixups = 0;
            fixupKind = new int[MOST_FIXUPS];
            fixupSegment = new int[MOST_FIXUPS];
            fixupPlace = new int[MOST_FIXUPS];
            fixupAbout = new int[MOST_FIXUPS];
            fixupName = new long[MOST_FIXUPS];
            publics = 0;
            publicName = new long[MOST_NAMES];
            publicSegment = new int[MOST_NAMES];
            publicOffset = new int[MOST_NAMES];
        }

        void clear() {
            there = false;
            segments = 0;
            fixups = 0;
            publics = 0;
            Arrays.fill(bytes, 0);
        }

        void addSegment(long name, int align, int size) {
            if (segments < MOST_NAMES) {
                int start = 0;
                if (segments > 0) {
                    start = segmentStart[segments - 1] + segmentSize[segments - 1];
                }
                segmentName[segments] = name;
                segmentAlign[segments] = align;
                segmentSize[segments] = size;
                segmentStart[segments] = start;
                segments++;
            }
        }

        void addPublic(long name, int segment, int offset) {
            if (publicNumber(name) < 0 && publics < MOST_NAMES) {
                publicName[publics] = name;
                publicSegment[publics] = segment;
                publicOffset[publics] = offset;
                publics++;
            }
        }

        int publicNumber(long name) {
            for (int i = 0; i < publics; i++) {
                if (publicName[i] == name) {
                    return i;
                }
            }
            return -1;
        }

        void addFixup(int kind, int segment, int at, int about, long name) {
            if (fixups < MOST_FIXUPS) {
                fixupKind[fixups] = kind;
                fixupSegment[fixups] = segment;
                fixupPlace[fixups] = at;
                fixupAbout[fixups] = about;
                fixupName[fixups] = name;
                fixups++;
            }
        }

        void putByte(int segment, int offset, int value) {
            if (segment < segments && segmentStart[segment] + offset < MOST_BYTES) {
                bytes[segmentStart[segment] + offset] = value & 255;
            }
        }

        void putWord(int segment, int offset, int value) {
            putByte(segment, offset, value);
            putByte(segment, offset + 1, value >> 8);
        }
    }

    /** What a link leaves: bytes, the places to which a load adds its paragraph, and main. */
    private static final class Image {
        private static final int MOST_RELOCATIONS = MODULES * ObjectModule.MOST_FIXUPS;

        boolean there;
        int size;
        final int[] bytes;
        int relocations;
        final int[] relocation;
        int mainParagraph;
        int mainOffset;

        Image() {
            there = false;
            size = 0;
            bytes = new int[MOST_IMAGE];
            relocations = 0;
            relocation = new int[MOST_RELOCATIONS];
            mainParagraph = 0;
            mainOffset = 0;
        }

        void begin(int newSize) {
            there = true;
            size = newSize;
            relocations = 0;
            Arrays.fill(bytes, 0);
        }

        void addRelocation(int at) {
            if (relocations < MOST_RELOCATIONS) {
                relocation[relocations] = at;
                relocations++;
            }
        }

        void addWord(int at, int value) {
            if (at >= 0 && at + 1 < MOST_IMAGE) {
                int sum = bytes[at] + 256 * bytes[at + 1] + value;
                bytes[at] = sum & 255;
                bytes[at + 1] = (sum >> 8) & 255;
            }
        }
    }

    /** Combines the segments of the modules that are there and solves their fixups. */
    private static final class Linker {
        private static final int PARTS = MODULES * MOST_NAMES;
        private static final int PARAGRAPH = 16;
        /** The name main, packed as Tokens does it. */
        private static final long MAIN = (('m' * 128L + 'a') * 128L + 'i') * 128L + 'n';

        private final ObjectModule[] modules;
        private final long[] name;
        private final int[] size;
        private final int[] place;
        private int combined;
        /** By part: the combined segment it is in, and where it begins there. */
        private final int[] whole;
        private final int[] begin;

        Linker(ObjectModule[] modules) {
            this.modules = modules;
            name = new long[PARTS];
            size = new int[PARTS];
            place = new int[PARTS];
            combined = 0;
            whole = new int[PARTS];
            begin = new int[PARTS];
        }

        private static int part(int module, int segment) {
            return module * MOST_NAMES + segment;
        }

        boolean hasModules() {
            for (int m = 0; m < MODULES; m++) {
                if (modules[m].there) {
                    return true;
                }
            }
            return false;
        }

        /** The first of the modules before a limit in which a name is public, or -1. */
        private int publicModule(long wanted, int limit) {
            for (int m = 0; m < limit; m++) {
                if (modules[m].there && modules[m].publicNumber(wanted) >= 0) {
                    return m;
                }
            }
            return -1;
        }

        boolean hasMain() {
            return publicModule(MAIN, MODULES) >= 0;
        }

        /** The least module with a name that is public in an earlier one, too, or -1. */
        int firstPublicTwice() {
            for (int m = 1; m < MODULES; m++) {
                ObjectModule later = modules[m];
                for (int i = 0; i < later.publics; i++) {
                    if (publicModule(later.publicName[i], m) >= 0) {
                        return m;
                    }
                }
            }
            return -1;
        }

        /** The least module with a fixup whose extern is public nowhere, or -1. */
        int firstUnsolved() {
            for (int m = 0; m < MODULES; m++) {
                ObjectModule from = modules[m];
                for (int i = 0; i < from.fixups; i++) {
                    if (from.fixupAbout[i] < 0 && publicModule(from.fixupName[i], MODULES) < 0) {
                        return m;
                    }
                }
            }
            return -1;
        }

        /** Places all parts and combined segments; answers the bytes of the image. */
        int combine() {
            combined = 0;
            for (int m = 0; m < MODULES; m++) {
                for (int s = 0; s < modules[m].segments; s++) {
                    addPart(m, s);
                }
            }
            int end = 0;
            for (int i = 0; i < combined; i++) {
                place[i] = roundUp(end, PARAGRAPH);
                end = place[i] + size[i];
            }
            return end;
        }

        private void addPart(int module, int segment) {
            ObjectModule from = modules[module];
            int to = combinedNumber(from.segmentName[segment]);
            int at = roundUp(size[to], from.segmentAlign[segment]);
            whole[part(module, segment)] = to;
            begin[part(module, segment)] = at;
            size[to] = at + from.segmentSize[segment];
        }

        private int combinedNumber(long wanted) {
            for (int i = 0; i < combined; i++) {
                if (name[i] == wanted) {
                    return i;
                }
            }
            if (combined >= PARTS) {
                return PARTS - 1;
            }
            name[combined] = wanted;
            size[combined] = 0;
            combined++;
            return combined - 1;
        }

        /** The part in which a public name lies; only for one that is public somewhere. */
        private int publicPart(long wanted) {
            int m = publicModule(wanted, MODULES);
            if (m < 0) {
                return 0;
            }
            return part(m, modules[m].publicSegment[modules[m].publicNumber(wanted)]);
        }

        /** The offset of a public name in its combined segment. */
        private int publicOffset(long wanted) {
            int m = publicModule(wanted, MODULES);
            if (m < 0) {
                return 0;
            }
            return begin[publicPart(wanted)] + modules[m].publicOffset[modules[m].publicNumber(wanted)];
        }

        /** The least module with a near fixup whose name lies in another combined segment, or -1. */
        int firstApart() {
            for (int m = 0; m < MODULES; m++) {
                ObjectModule from = modules[m];
                for (int i = 0; i < from.fixups; i++) {
                    if (from.fixupKind[i] == ObjectModule.NEAR
                            && whole[part(m, from.fixupSegment[i])] != whole[publicPart(from.fixupName[i])]) {
                        return m;
                    }
                }
            }
            return -1;
        }

        void write(Image image, int bytes) {
            image.begin(bytes);
            for (int m = 0; m < MODULES; m++) {
                for (int s = 0; s < modules[m].segments; s++) {
                    ObjectModule from = modules[m];
                    System.arraycopy(from.bytes, from.segmentStart[s], image.bytes,
                            placeOf(part(m, s)), from.segmentSize[s]);
                }
            }
            for (int m = 0; m < MODULES; m++) {
                for (int i = 0; i < modules[m].fixups; i++) {
                    solve(image, m, i);
                }
            }
            image.mainParagraph = place[whole[publicPart(MAIN)]] / PARAGRAPH;
            image.mainOffset = publicOffset(MAIN);
        }

        /** Where a part begins in the image. */
        private int placeOf(int part) {
            return place[whole[part]] + begin[part];
        }

        private void solve(Image image, int module, int i) {
            ObjectModule from = modules[module];
            boolean isExtern = from.fixupAbout[i] < 0;
            long wanted = from.fixupName[i];
            int here = part(module, from.fixupSegment[i]);
            int about = isExtern ? publicPart(wanted) : part(module, from.fixupAbout[i]);
            int at = placeOf(here) + from.fixupPlace[i];
            if (from.fixupKind[i] == ObjectModule.PARAGRAPH) {
                image.addWord(at, place[whole[about]] / PARAGRAPH);
                image.addRelocation(at);
            } else if (from.fixupKind[i] == ObjectModule.NEAR) {
                image.addWord(at, publicOffset(wanted) - (begin[here] + from.fixupPlace[i] + 2));
            } else {
                image.addWord(at, isExtern ? publicOffset(wanted) : begin[about]);
            }
        }
    }

    /** Memory, registers and flags, and what the codes do with them. */
    private static final class Machine {
        static final int MEMORY = 4096;
        static final int MOST_TOLD = 30;
        /** A segment's 65536 bytes are whole rounds of the memory, so an address may run over. */
        private static final int MASK = MEMORY - 1;
        private static final int HLT = 0;
        private static final int DIVIDE = 1;
        private static final int UNDEFINED = 2;
        private static final int GOES_ON = 3;
        private static final int WORD = 65535;
        private static final int AX = 0;
        private static final int CX = 1;
        private static final int DX = 2;
        private static final int BX = 3;
        private static final int SP = 4;
        private static final int BP = 5;
        private static final int SI = 6;
        private static final int CS = 1;
        private static final int SS = 2;
        private static final int DS = 3;

        final int[] cells;
        final int[] general;
        final int[] segment;
        int ip;
        int carry;
        int zero;
        int sign;
        boolean halted;
        int done;
        int ints;
        final int[] told;
        /** The M that was fetched last: its k, and its register or, if that is -1, its address. */
        private int k;
        private int slot;
        private int address;

        Machine() {
            cells = new int[MEMORY];
            general = new int[8];
            segment = new int[4];
            told = new int[MOST_TOLD];
            halted = true;
            ip = 0;
            carry = 0;
            zero = 0;
            sign = 0;
            done = 0;
            ints = 0;
            k = 0;
            slot = 0;
            address = 0;
        }

        void start(Image image, int paragraph) {
            Arrays.fill(cells, 0);
            int base = 16 * paragraph;
            for (int i = 0; i < image.size; i++) {
                cells[(base + i) & MASK] = image.bytes[i];
            }
            for (int i = 0; i < image.relocations; i++) {
                int at = base + image.relocation[i];
                putWord(at, word(at) + paragraph);
            }
            Arrays.fill(general, 0);
            Arrays.fill(segment, paragraph);
            segment[CS] = paragraph + image.mainParagraph;
            ip = image.mainOffset;
            carry = 0;
            zero = 0;
            sign = 0;
            halted = false;
            done = 0;
            ints = 0;
        }

        int go(int fuel) {
            for (int i = 0; i < fuel; i++) {
                int start = ip;
                int end = execute(fetch());
                if (end == DIVIDE || end == UNDEFINED) {
                    ip = start;
                } else {
                    done++;
                }
                if (end != GOES_ON) {
                    halted = true;
                    return end;
                }
            }
            return GOES_ON;
        }

        private int word(int at) {
            return cells[at & MASK] + 256 * cells[(at + 1) & MASK];
        }

        private void putWord(int at, int value) {
            cells[at & MASK] = value & 255;
            cells[(at + 1) & MASK] = (value >> 8) & 255;
        }

        private int fetch() {
            int value = cells[(16 * segment[CS] + ip) & MASK];
            ip = (ip + 1) & WORD;
            return value;
        }

        private int fetchSigned() {
            return (byte) fetch();
        }

        private int fetchWord() {
            int low = fetch();
            return low + 256 * fetch();
        }

        private void jump(int distance) {
            ip = (ip + distance) & WORD;
        }

        private void push(int value) {
            general[SP] = (general[SP] - 2) & WORD;
            putWord(16 * segment[SS] + general[SP], value);
        }

        private int pop() {
            int value = word(16 * segment[SS] + general[SP]);
            general[SP] = (general[SP] + 2) & WORD;
            return value;
        }

        private int execute(int code) {
            if (code < 64) {
                return executeLow(code >> 3, code & 7);
            }
            if (code < 96) {
                return executeRegister(code >> 3, code & 7);
            }
            if (code >= 114 && code <= 121) {
                return branch(code);
            }
            if (code >= 184 && code <= 191) {
                general[code - 184] = fetchWord();
                return GOES_ON;
            }
            switch (code) {
                case 129:
                case 137:
                case 139:
                case 140:
                case 142:
                case 199:
                case 209:
                case 247:
                    fetchM();
                    return executeM(code);
                default:
                    return executeFlow(code);
            }
        }

        private static boolean isArithmetic(int n) {
            return n != 2 && n != 3;
        }

        /** Codes below 64: arithmetic between M and a register; push and pop of segment registers. */
        private int executeLow(int n, int low) {
            if (low == 6 && n < 4) {
                push(segment[n]);
                return GOES_ON;
            }
            if (low == 7 && n < 4 && n != CS) {
                segment[n] = pop();
                return GOES_ON;
            }
            if (low != 1 && low != 3 || !isArithmetic(n)) {
                return UNDEFINED;
            }
            fetchM();
            if (low == 1) {
                arithmeticOnM(n, general[k]);
            } else {
                int result = arithmetic(n, general[k], readM());
                if (n != 7) {
                    general[k] = result;
                }
            }
            return GOES_ON;
        }

        private int executeRegister(int group, int register) {
            switch (group) {
                case 8:
                    general[register] = (general[register] + 1) & WORD;
                    judge(general[register]);
                    break;
                case 9:
                    general[register] = (general[register] - 1) & WORD;
                    judge(general[register]);
                    break;
                case 10:
                    push(general[register]);
                    break;
                default:
                    general[register] = pop();
                    break;
            }
            return GOES_ON;
        }

        private int branch(int code) {
            int flag;
            switch (code >> 1) {
                case 57:
                    flag = carry;
                    break;
                case 58:
                    flag = zero;
                    break;
                case 60:
                    flag = sign;
                    break;
                default:
                    return UNDEFINED;
            }
            int distance = fetchSigned();
            if (flag != (code & 1)) {
                jump(distance);
            }
            return GOES_ON;
        }

        private int executeM(int code) {
            switch (code) {
                case 129:
                    if (!isArithmetic(k)) {
                        return UNDEFINED;
                    }
                    arithmeticOnM(k, fetchWord());
                    return GOES_ON;
                case 137:
                    writeM(general[k]);
                    return GOES_ON;
                case 139:
                    general[k] = readM();
                    return GOES_ON;
                case 140:
                    if (k > 3) {
                        return UNDEFINED;
                    }
                    writeM(segment[k]);
                    return GOES_ON;
                case 142:
                    if (k > 3 || k == CS) {
                        return UNDEFINED;
                    }
                    segment[k] = readM();
                    return GOES_ON;
                case 199:
                    if (k != 0) {
                        return UNDEFINED;
                    }
                    writeM(fetchWord());
                    return GOES_ON;
                case 209:
                    return shift();
                default:
                    return single();
            }
        }

        private int executeFlow(int code) {
            switch (code) {
                case 235:
                    jump(fetchSigned());
                    return GOES_ON;
                case 233:
                    jump(fetchWord());
                    return GOES_ON;
                case 226:
                    return loop(fetchSigned());
                case 232:
                    int distance = fetchWord();
                    push(ip);
                    jump(distance);
                    return GOES_ON;
                case 154:
                    return callFar(fetchWord(), fetchWord());
                case 195:
                    ip = pop();
                    return GOES_ON;
                case 203:
                    ip = pop();
                    segment[CS] = pop();
                    return GOES_ON;
                case 205:
                    tellInt(fetch());
                    return GOES_ON;
                case 244:
                    return HLT;
                default:
                    return UNDEFINED;
            }
        }

        private int loop(int distance) {
            general[CX] = (general[CX] - 1) & WORD;
            if (general[CX] != 0) {
                jump(distance);
            }
            return GOES_ON;
        }

        private int callFar(int toOffset, int toSegment) {
            push(segment[CS]);
            push(ip);
            ip = toOffset;
            segment[CS] = toSegment;
            return GOES_ON;
        }

        private void tellInt(int number) {
            if (ints < MOST_TOLD) {
                told[ints] = 65536 * number + general[AX];
            }
            ints++;
        }

        private void fetchM() {
            int m = fetch();
            int a = m >> 6;
            int b = m & 7;
            k = (m >> 3) & 7;
            slot = a == 3 ? b : -1;
            if (a == 3) {
                return;
            }
            boolean isBare = a == 0 && b == 6;
            int x = isBare ? 0 : registerSum(b);
            if (isBare || a == 2) {
                x += fetchWord();
            } else if (a == 1) {
                x += fetchSigned();
            }
            boolean onStack = b == 2 || b == 3 || b == 6 && !isBare;
            address = 16 * segment[onStack ? SS : DS] + (x & WORD);
        }

        private int registerSum(int b) {
            switch (b) {
                case 6:
                    return general[BP];
                case 7:
                    return general[BX];
                default:
                    int index = general[SI + (b & 1)];
                    if (b >= 4) {
                        return index;
                    }
                    return index + general[b < 2 ? BX : BP];
            }
        }

        private int readM() {
            return slot >= 0 ? general[slot] : word(address);
        }

        private void writeM(int value) {
            if (slot >= 0) {
                general[slot] = value & WORD;
            } else {
                putWord(address, value);
            }
        }

        /** Z and S as a result has them. */
        private void judge(int result) {
            zero = result == 0 ? 1 : 0;
            sign = result >> 15;
        }

        private void arithmeticOnM(int n, int value) {
            int result = arithmetic(n, readM(), value);
            if (n != 7) {
                writeM(result);
            }
        }

        private int arithmetic(int n, int a, int b) {
            int result;
            switch (n) {
                case 0:
                    result = a + b;
                    break;
                case 1:
                    result = a | b;
                    break;
                case 4:
                    result = a & b;
                    break;
                case 6:
                    result = a ^ b;
                    break;
                default:
                    result = a - b;
                    break;
            }
            // A sum above 16 bits or a difference below 0 shows in bit 16, nothing else does.
            carry = (result >> 16) & 1;
            judge(result & WORD);
            return result & WORD;
        }

        private int shift() {
            int value = readM();
            int result;
            if (k == 4) {
                carry = value >> 15;
                result = (value << 1) & WORD;
            } else if (k == 5) {
                carry = value & 1;
                result = value >> 1;
            } else {
                return UNDEFINED;
            }
            judge(result);
            writeM(result);
            return GOES_ON;
        }

        /** neg, mul, div. */
        private int single() {
            switch (k) {
                case 3:
                    writeM(arithmetic(5, 0, readM()));
                    return GOES_ON;
                case 4:
                    long product = (long) general[AX] * readM();
                    general[AX] = (int) product & WORD;
                    general[DX] = (int) (product >> 16) & WORD;
                    carry = general[DX] != 0 ? 1 : 0;
                    return GOES_ON;
                case 6:
                    return divide(readM());
                default:
                    return UNDEFINED;
            }
        }

        private int divide(int divisor) {
            long dividend = 65536L * general[DX] + general[AX];
            if (divisor == 0 || dividend / divisor > WORD) {
                return DIVIDE;
            }
            general[AX] = (int) (dividend / divisor);
            general[DX] = (int) (dividend % divisor);
            return GOES_ON;
        }
    }
}
