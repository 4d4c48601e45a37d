import java.util.List;
import java.util.NoSuchElementException;

/** What is thrown, in what order, and that a call that throws changes nothing, but as said: all promises. */
public final class CallEdgesTest {
    private static final Class<IllegalArgumentException> ARGUMENT = IllegalArgumentException.class;
    private static final Class<IllegalStateException> STATE = IllegalStateException.class;
    private static final Class<IndexOutOfBoundsException> INDEX = IndexOutOfBoundsException.class;
    private static final int[] FAR = {-1, -2, -65536, Integer.MIN_VALUE, Integer.MIN_VALUE + 1, Integer.MAX_VALUE - 1,
        Integer.MAX_VALUE};

    public static void main(String[] args) {
        appendRanges();
        appendFull();
        assembleRange();
        assembleFails();
        assembleAnswers();
        dropRange();
        dropAnswers();
        linkFails();
        linkAnswers();
        loadRange();
        loadPlaces();
        runRefused();
        codeRanges();
        fixupRanges();
        imageRange();
        memoryRange();
        registerRange();
        traceRange();
        countRange();
        readsChangeNothing();
        kindAndPlaceStay();
        objectsApart();
        all512Calls();
        Check.end();
    }

    /** An object of which all that can be read is something: modules, an image, a run, a failure, a text. */
    private static SegmentBench rich() {
        SegmentBench bench = Check.modules(
                "extern f;seg c 1;public main;main:mov ax,@d;mov ds,ax;int 7;push ax;call f;hlt;seg d 2;word main,f;",
                "seg c 4;public f;f:inc ax;ret;", "seg e 16;x:word x,@x,7;");
        bench.link();
        bench.load(20);
        bench.run(4);
        failed(Check.type(bench, "seg c 1;word q;"));
        return Check.type(bench, "seg q 1");
    }

    private static void failed(SegmentBench bench) {
        Check.thrown("a failure", () -> bench.assemble(2), NoSuchElementException.class);
    }

    private static void refused(String what, Check.Step step, Class<? extends RuntimeException> want, int... but) {
        Check.changesNothing(what, CallEdgesTest::rich, step, want, but);
    }

    /** "n 1 .. 8", "one is not 32 .. 126: IllegalArgumentException" */
    private static void appendRanges() {
        long letters = 0x6162636465666768L;
        for (int n = 1; n <= 8; n++) {
            SegmentBench bench = Check.type(new SegmentBench(), "abc");
            int count = n;
            Check.due("append " + n, () -> bench.append(letters, count), 3 + n);
            Check.due("length", () -> bench.count(0), 3 + n);
        }
        refused("append 0", x -> x.append(letters, 0), ARGUMENT);
        refused("append 9", x -> x.append(letters, 9), ARGUMENT);
        for (int n : FAR) {
            Check.thrown("append " + n, () -> new SegmentBench().append(letters, n), ARGUMENT);
        }
        for (int sign = 0; sign < 256; sign++) {
            for (int at = 0; at < 8; at++) {
                long v = letters & ~(255L << 8 * at) | (long) sign << 8 * at;
                for (int n = 1; n <= 8; n += at == 7 ? 7 : 1) {
                    appended(v, n, at < n && (sign < 32 || sign > 126));
                }
            }
        }
        refused("append 31", x -> x.append(0x61611f61, 4), ARGUMENT);
        refused("append 127", x -> x.append(0x7f616161, 4), ARGUMENT);
    }

    private static void appended(long v, int n, boolean isRefused) {
        SegmentBench bench = new SegmentBench();
        String what = "append " + v + ", " + n;
        if (isRefused) {
            Check.thrown(what, () -> bench.append(v, n), ARGUMENT);
        } else {
            Check.due(what, () -> bench.append(v, n), n);
        }
        Check.due(what + ": length", () -> bench.count(0), isRefused ? 0 : n);
    }

    /** "it would have more than 480: IndexOutOfBoundsException" */
    private static void appendFull() {
        for (int length = 470; length <= 480; length++) {
            for (int n = 1; n <= 8; n++) {
                SegmentBench bench = Check.type(new SegmentBench(), Check.times(";", length));
                int count = n;
                if (length + n <= 480) {
                    Check.due(length + " and " + n, () -> bench.append(0x3b3b3b3b3b3b3b3bL, count), length + n);
                } else {
                    Check.thrown(length + " and " + n, () -> bench.append(0x3b3b3b3b3b3b3b3bL, count), INDEX);
                    Check.due("length", () -> bench.count(0), length);
                    Check.thrown("a sign is first", () -> bench.append(0x3b3b3b3b3b3b3b1fL, count), ARGUMENT);
                    Check.thrown("n is first", () -> bench.append(0x3b3b3b3b3b3b3b3bL, count + 8), ARGUMENT);
                }
            }
        }
        Check.changesNothing("full", () -> Check.type(new SegmentBench(), Check.times(";", 480)),
                x -> x.append(59, 1), INDEX);
    }

    /** "module 0 .. 2"; a refused one leaves the text. */
    private static void assembleRange() {
        refused("assemble -1", x -> x.assemble(-1), ARGUMENT);
        refused("assemble 3", x -> x.assemble(3), ARGUMENT);
        for (int module : FAR) {
            Check.thrown("assemble " + module, () -> new SegmentBench().assemble(module), ARGUMENT);
        }
        for (int m = 0; m < 3; m++) {
            SegmentBench bench = Check.type(new SegmentBench(), "seg c 1;ret;");
            Check.thrown("not 3", () -> bench.assemble(3), ARGUMENT);
            int module = m;
            Check.due("assemble " + m, () -> bench.assemble(module), 1);
            for (int other = 0; other < 3; other++) {
                int count = 8 + other;
                Check.due("segments of " + other, () -> bench.count(count), other == m ? 1 : 0);
            }
        }
        SegmentBench wrong = Check.type(new SegmentBench(), "#");
        Check.thrown("the range is first", () -> wrong.assemble(3), ARGUMENT);
        Check.failure("the range is first", wrong, -1, -1);
    }

    /** "THE TEXT is read, and empty then. .. the MODULE stays as it was." */
    private static void assembleFails() {
        String spaces = Check.times("space 64;", 6);
        String[] texts = {";#", ";jmp w;", ";" + spaces + "space 17;", ";jz w;space 64;space 64;w:;"};
        int[] kinds = {1, 2, 4, 3};
        int[] places = {8, 12, -1, 8};
        List<Class<? extends RuntimeException>> wants = List.of(UnsupportedOperationException.class,
                NoSuchElementException.class, INDEX, ArithmeticException.class);
        for (int i = 0; i < texts.length; i++) {
            String text = texts[i];
            for (int m = 0; m < 3; m++) {
                int module = m;
                Check.changesNothing("assemble " + text, () -> Check.type(rich(), text), x -> x.assemble(module),
                        wants.get(i), 0, 1, 2);
                SegmentBench bench = Check.type(rich(), text);
                Check.thrown("assemble " + text, () -> bench.assemble(module), wants.get(i));
                Check.failure("after " + text, bench, kinds[i], places[i]);
                Check.due("text of " + text, () -> bench.count(0), 0);
            }
        }
    }

    /** "Else it is that MODULE. Answers how many bytes." */
    private static void assembleAnswers() {
        SegmentBench bench = rich();
        Check.type(bench, ";ret;ret;seg r 2;x:word x;");
        Check.due("assemble", () -> bench.assemble(1), 4);
        Check.same("first", Check.bytes(bench, 1, 0), "195 195");
        Check.same("second", Check.bytes(bench, 1, 1), "0 0");
        Check.same("fixups", Check.fixups(bench, 1), "0/1/0/1");
        Check.same("counts", bench.count(0) + " " + bench.count(1) + " " + bench.count(2) + " " + bench.count(9),
                "0 -1 -1 2");
        Check.sameState("the image, the machine and the others stay", CallEdgesTest::rich,
                x -> Check.type(x, ";").assemble(1) + Check.type(x, "seg c 4;public f;f:inc ax;ret;").assemble(1), 0, 1, 2);
        Check.due("an empty text", () -> bench.assemble(1), 0);
        Check.same("is a module", bench.count(9) + " " + bench.count(12) + " " + bench.drop(1), "0 0 true");
    }

    /** "module 0 .. 2" */
    private static void dropRange() {
        refused("drop -1", x -> x.drop(-1) ? 1 : 0, ARGUMENT);
        refused("drop 3", x -> x.drop(3) ? 1 : 0, ARGUMENT);
        for (int module : FAR) {
            Check.thrown("drop " + module, () -> new SegmentBench().drop(module) ? 1 : 0, ARGUMENT);
        }
    }

    /** "module 0 .. 2 is not there from now on. Answers whether it was." */
    private static void dropAnswers() {
        for (int m = 0; m < 3; m++) {
            SegmentBench bench = rich();
            int module = m;
            Check.due("there", () -> bench.drop(module) ? 1 : 0, 1);
            Check.due("not there", () -> bench.drop(module) ? 1 : 0, 0);
            Check.due("segments", () -> bench.count(8 + module), 0);
            Check.due("fixups", () -> bench.count(11 + module), 0);
            Check.thrown("code", () -> bench.code(module, 0, 0), INDEX);
            Check.thrown("fixup", () -> bench.fixup(module, 0, 0), INDEX);
            Check.failure("kind and place stay", bench, 2, 13);
            SegmentBench fresh = new SegmentBench();
            Check.due("never there", () -> fresh.drop(module) ? 1 : 0, 0);
        }
        Check.sameState("one that was not there", () -> Check.modules("seg c 1;ret;", null, "seg c 1;"),
                x -> x.drop(1) ? 1 : 0);
    }

    /** "None is there: IllegalStateException", and a link that fails leaves the image and all else. */
    private static void linkFails() {
        Check.changesNothing("5", CallEdgesTest::twice, x -> x.link(), UnsupportedOperationException.class, 1, 2);
        Check.changesNothing("6", () -> dropped(1), x -> x.link(), NoSuchElementException.class, 1, 2);
        Check.changesNothing("8", () -> dropped(0), x -> x.link(), NoSuchElementException.class, 1, 2);
        Check.changesNothing("9", CallEdgesTest::tooLong, x -> x.link(), INDEX, 1, 2);
        Check.changesNothing("7", CallEdgesTest::apart, x -> x.link(), ArithmeticException.class, 1, 2);
        Check.changesNothing("none", CallEdgesTest::none, x -> x.link(), STATE);
        Check.changesNothing("none at first", SegmentBench::new, x -> x.link(), STATE);
    }

    private static SegmentBench twice() {
        SegmentBench bench = rich();
        Check.type(bench, ";public f;f:;").assemble(2);
        return bench;
    }

    private static SegmentBench dropped(int module) {
        SegmentBench bench = rich();
        bench.drop(module);
        return bench;
    }

    private static SegmentBench tooLong() {
        SegmentBench bench = rich();
        String spaces = ";" + Check.times("space 64;", 6);
        Check.type(bench, spaces).assemble(2);
        Check.type(bench, "seg y 1;public f;f:" + spaces.substring(1)).assemble(1);
        Check.type(bench, "seg c 1;public main;main:" + spaces + "seg w 1;ret;seg v 1;ret;seg u 1;ret;seg t 1;ret;")
                .assemble(0);
        return bench;
    }

    private static SegmentBench apart() {
        SegmentBench bench = dropped(1);
        Check.type(bench, " ;seg c9 1;public f;f:;").assemble(1);
        return bench;
    }

    private static SegmentBench none() {
        SegmentBench bench = rich();
        for (int m = 0; m < 3; m++) {
            bench.drop(m);
        }
        return bench;
    }

    /** "Else there is an IMAGE. Answers how many bytes." */
    private static void linkAnswers() {
        SegmentBench bench = rich();
        int bytes = bench.count(3);
        Check.due("again", () -> bench.link(), bytes);
        Check.failure("again", bench, -1, -1);
        Check.sameState("the modules and the machine stay", CallEdgesTest::rich, x -> x.link(), 1, 2);
    }

    /** "paragraph 0 .. 255. There was no IMAGE: IllegalStateException." */
    private static void loadRange() {
        refused("load -1", x -> x.load(-1), ARGUMENT);
        refused("load 256", x -> x.load(256), ARGUMENT);
        for (int paragraph : FAR) {
            Check.thrown("load " + paragraph, () -> rich().load(paragraph), ARGUMENT);
            Check.thrown("the range is first", () -> new SegmentBench().load(paragraph), ARGUMENT);
        }
        Check.thrown("the range is first", () -> new SegmentBench().load(256), ARGUMENT);
        Check.changesNothing("no image", SegmentBench::new, x -> x.load(0), STATE);
        Check.changesNothing("modules, but no image", () -> Check.modules("seg c 1;public main;main:hlt;"),
                x -> x.load(255), STATE);
    }

    /** "the IMAGE from byte 16 times paragraph on (modulo 4096)" */
    private static void loadPlaces() {
        for (int paragraph : new int[] {0, 1, 200, 254, 255}) {
            SegmentBench bench = Check.modules("seg b 1;byte 1,2,3;word @c;space 20;byte 9;"
                    + "seg c 1;ret;public main;main:hlt;");
            Check.due("link", () -> bench.link(), 34);
            Check.due("load " + paragraph, () -> bench.load(paragraph), 1);
            int base = 16 * paragraph;
            int[] at = {0, 2, 3, 4, 24, 25, 26, 31, 32, 33, 34, 4095};
            int[] want = {1, 3, paragraph + 2 & 255, paragraph + 2 >> 8, 0, 9, 0, 0, 195, 244, 0, 0};
            for (int i = 0; i < at.length; i++) {
                int address = (base + at[i]) % 4096;
                Check.due("memory " + address, () -> bench.memory(address), want[i]);
            }
            Check.same("registers", Check.registers(bench, 0, 16), "0 0 0 0 0 0 0 0 " + paragraph + " "
                    + (paragraph + 2) + " " + paragraph + " " + paragraph + " 1 0 0 0");
            Check.same("counts", bench.count(5) + " " + bench.count(6) + " " + bench.count(7), "0 0 0");
        }
        for (String flags : new String[] {"cmp ax,0;", "cmp ax,1;", "mov ax,1;shr ax;"}) {
            SegmentBench bench = Check.loaded("seg c 1;public main;main:" + flags + "hlt;", 9);
            bench.run(9);
            bench.load(9);
            Check.same("flags behind " + flags, Check.registers(bench, 13, 16), "0 0 0");
        }
        SegmentBench split = Check.modules("seg c 1;public main;main:space 15;word @c;");
        split.link();
        split.load(255);
        Check.same("over the end", split.memory(4095) + " " + split.memory(0), "255 0");
        Check.sameState("the text, the modules and the image stay", () -> again(rich()), x -> x.load(20));
    }

    private static SegmentBench again(SegmentBench bench) {
        bench.load(20);
        return bench;
    }

    /** "fuel 1 .. 400. It has HALTED: IllegalStateException." */
    private static void runRefused() {
        Check.changesNothing("a new object has halted", SegmentBench::new, x -> x.run(1), STATE);
        Check.changesNothing("the range is first", SegmentBench::new, x -> x.run(0), ARGUMENT);
        refused("0", x -> x.run(0), ARGUMENT);
        refused("401", x -> x.run(401), ARGUMENT);
        for (int fuel : FAR) {
            Check.thrown("run " + fuel, () -> rich().run(fuel), ARGUMENT);
        }
    }

    /** "Byte i of the SEGMENT (in order, from 0) of a MODULE; there is none: IndexOutOfBoundsException" */
    private static void codeRanges() {
        SegmentBench bench = rich();
        int[][] right = {{0, 0, 0, 184}, {0, 0, 11, 244}, {0, 1, 0, 0}, {0, 1, 3, 0}, {1, 0, 1, 195}, {2, 0, 4, 7}};
        for (int[] row : right) {
            Check.due("code", () -> bench.code(row[0], row[1], row[2]), row[3]);
        }
        int[][] none = {{0, 0, 12}, {0, 1, 4}, {0, 2, 0}, {1, 0, 2}, {1, 1, 0}, {2, 0, 6}, {2, 1, 0}, {3, 0, 0}, {-1, 0, 0},
            {0, -1, 0}, {0, 0, -1}, {0, 23, 0}, {0, 24, 0}, {0, 0, 400}};
        for (int[] row : none) {
            Check.thrown("code", () -> bench.code(row[0], row[1], row[2]), INDEX);
        }
        for (int far : FAR) {
            Check.thrown("module " + far, () -> bench.code(far, 0, 0), INDEX);
            Check.thrown("segment " + far, () -> bench.code(0, far, 0), INDEX);
            Check.thrown("byte " + far, () -> bench.code(0, 0, far), INDEX);
        }
        SegmentBench empty = Check.modules("", "seg c 1;seg d 1;ret;");
        Check.thrown("no segment", () -> empty.code(0, 0, 0), INDEX);
        Check.thrown("an empty one", () -> empty.code(1, 0, 0), INDEX);
        Check.due("behind it", () -> empty.code(1, 1, 0), 195);
    }

    /** "what 0 .. 3; there is none: IndexOutOfBoundsException" */
    private static void fixupRanges() {
        SegmentBench bench = rich();
        Check.same("fixups", Check.fixups(bench, 0), "1/0/1/1 2/0/9/-1 0/1/0/0 0/1/2/-1");
        Check.same("fixups", Check.fixups(bench, 2), "0/0/0/0 1/0/2/0");
        for (int what = 0; what < 4; what++) {
            int w = what;
            int[][] none = {{0, 4}, {1, 0}, {2, 2}, {0, -1}, {3, 0}, {-1, 0}, {0, 200}};
            for (int[] row : none) {
                Check.thrown("fixup " + row[0] + " " + row[1], () -> bench.fixup(row[0], row[1], w), INDEX);
            }
            for (int far : FAR) {
                Check.thrown("module " + far, () -> bench.fixup(far, 0, w), INDEX);
                Check.thrown("fixup " + far, () -> bench.fixup(0, far, w), INDEX);
            }
        }
        for (int what : new int[] {4, 5, -1, Integer.MIN_VALUE, Integer.MAX_VALUE}) {
            Check.thrown("what " + what, () -> bench.fixup(0, 0, what), ARGUMENT);
            Check.thrown("what is first", () -> bench.fixup(0, 4, what), ARGUMENT);
            Check.thrown("what is first", () -> bench.fixup(3, 0, what), ARGUMENT);
            Check.thrown("what is first", () -> new SegmentBench().fixup(0, 0, what), ARGUMENT);
        }
    }

    /** "Byte i of the IMAGE; there is none: IndexOutOfBoundsException" */
    private static void imageRange() {
        SegmentBench bench = rich();
        int size = bench.count(3);
        Check.due("image", () -> size, 38);
        Check.due("first", () -> bench.image(0), 184);
        Check.due("last", () -> bench.image(37), 0);
        Check.due("last but one", () -> bench.image(36), 7);
        for (int i : new int[] {38, 39, 1199, 1200, -1, Integer.MIN_VALUE, Integer.MAX_VALUE}) {
            Check.thrown("image " + i, () -> bench.image(i), INDEX);
        }
        Check.thrown("none", () -> new SegmentBench().image(0), INDEX);
    }

    /** "address 0 .. 4095" */
    private static void memoryRange() {
        SegmentBench bench = rich();
        Check.due("0", () -> bench.memory(0), 0);
        Check.due("4095", () -> bench.memory(4095), 0);
        Check.due("320", () -> bench.memory(320), 184);
        Check.thrown("4096", () -> bench.memory(4096), ARGUMENT);
        for (int address : FAR) {
            Check.thrown("memory " + address, () -> bench.memory(address), ARGUMENT);
        }
    }

    /** "0 .. 7 a REGISTER, 8 .. 11 an SREGISTER, 12 IP, 13 C, 14 Z, 15 S" */
    private static void registerRange() {
        SegmentBench bench = Check.loaded("seg c 1;public main;main:mov ax,1;mov cx,2;mov dx,3;mov bx,4;mov bp,6;mov si,7;"
                + "mov di,8;mov es,si;mov ds,di;mov ss,bp;mov sp,5;cmp ax,cx;", 30);
        bench.run(12);
        int[] want = {1, 2, 3, 4, 5, 6, 7, 8, 7, 30, 6, 8, 32, 1, 0, 1};
        for (int i = 0; i < 16; i++) {
            int register = i;
            Check.due("register " + i, () -> bench.register(register), want[i]);
        }
        Check.thrown("16", () -> bench.register(16), ARGUMENT);
        for (int register : FAR) {
            Check.thrown("register " + register, () -> bench.register(register), ARGUMENT);
        }
        SegmentBench zero = Check.loaded("seg c 1;public main;main:cmp ax,0;", 30);
        zero.run(1);
        Check.same("Z", Check.registers(zero, 13, 16), "0 1 0");
    }

    /** "there is none: IndexOutOfBoundsException"; FlowEdgesTest has the 30th and the 31st. */
    private static void traceRange() {
        SegmentBench bench = rich();
        Check.due("0", () -> bench.trace(0), 7 * 65536 + 21);
        Check.thrown("1", () -> bench.trace(1), INDEX);
        for (int i : FAR) {
            Check.thrown("trace " + i, () -> bench.trace(i), INDEX);
        }
        Check.thrown("none", () -> new SegmentBench().trace(0), INDEX);
    }

    /** "what 0 .. 13" */
    private static void countRange() {
        SegmentBench bench = rich();
        int[] want = {7, 2, 13, 38, 2, 4, 1, 0, 2, 1, 1, 4, 0, 2};
        for (int i = 0; i < want.length; i++) {
            int what = i;
            Check.due("count " + i, () -> bench.count(what), want[i]);
        }
        Check.thrown("14", () -> bench.count(14), ARGUMENT);
        for (int what : FAR) {
            Check.thrown("count " + what, () -> bench.count(what), ARGUMENT);
        }
    }

    /** "A call that throws changes nothing", nor does one that only looks. */
    private static void readsChangeNothing() {
        Check.Step[] reads = {x -> x.code(0, 0, 0), x -> x.fixup(0, 1, 2), x -> x.image(5), x -> x.memory(77),
            x -> x.register(12), x -> x.trace(0), x -> x.count(7)};
        for (int i = 0; i < reads.length; i++) {
            Check.sameState("read " + i, CallEdgesTest::rich, reads[i]);
        }
        refused("code", x -> x.code(3, 0, 0), INDEX);
        refused("fixup", x -> x.fixup(0, 0, 4), ARGUMENT);
        refused("fixup", x -> x.fixup(0, 99, 0), INDEX);
        refused("image", x -> x.image(38), INDEX);
        refused("memory", x -> x.memory(4096), ARGUMENT);
        refused("register", x -> x.register(16), ARGUMENT);
        refused("trace", x -> x.trace(1), INDEX);
        refused("count", x -> x.count(14), ARGUMENT);
    }

    /** "KIND and PLACE are told, -1 both by an assemble or link that answers", and by no other call. */
    private static void kindAndPlaceStay() {
        SegmentBench bench = rich();
        Check.failure("at first", bench, 2, 13);
        bench.append(59, 1);
        bench.load(3);
        bench.run(400);
        bench.drop(2);
        Check.failure("still", bench, 2, 13);
        bench.link();
        Check.failure("a link that answers", bench, -1, -1);
        Check.type(bench, "#");
        Check.thrown("syntax", () -> bench.assemble(2), UnsupportedOperationException.class);
        Check.failure("syntax", bench, 1, 8);
        bench.drop(1);
        Check.thrown("open", () -> bench.link(), NoSuchElementException.class);
        Check.failure("open", bench, 6, 0);
        bench.assemble(1);
        Check.failure("an assemble that answers", bench, -1, -1);
        SegmentBench fresh = new SegmentBench();
        Check.failure("at first", fresh, -1, -1);
    }

    /** What one object has is nothing to another. */
    private static void objectsApart() {
        SegmentBench one = rich();
        SegmentBench two = new SegmentBench();
        Check.same("two", two.count(0) + " " + two.count(3) + " " + two.count(8) + " " + two.count(7), "0 0 0 1");
        two.append(59, 1);
        two.assemble(0);
        Check.same("one", one.count(0) + " " + one.count(3) + " " + one.count(8) + " " + one.count(7), "7 38 2 0");
    }

    /** "An object is used for at most 512 calls after it has been made": the 512th is answered like the first. */
    private static void all512Calls() {
        SegmentBench texts = new SegmentBench();
        for (int round = 1; round <= 8; round++) {
            Check.type(texts, Check.times("seg a 1;", 59) + "int " + round + "; ;");
            Check.due("assemble " + round, () -> texts.assemble(0), 2);
            int told = round;
            Check.due("its byte", () -> texts.code(0, 0, 1), told);
        }
        int typed = 5;
        SegmentBench runs = Check.loaded("seg c 1;public main;main:jmp main;", 0);
        for (int call = typed + 4; call <= 511; call++) {
            Check.due("call " + call, () -> runs.run(400), 3);
        }
        Check.due("call 512", () -> runs.count(5), 400 * (511 - typed - 3));
    }
}
