/** Terms, the machine, and promises 7 and 13: the stack, jumps, what ends a run, and what is told. */
public final class FlowEdgesTest {
    private static final String START = "seg c 1;public main;main:";
    private static final int PARAGRAPH = 32;
    private static final int BASE = 16 * PARAGRAPH;

    public static void main(String[] args) {
        pushes();
        pops();
        calls();
        farCalls();
        loops();
        branches();
        distances();
        fuel();
        halts();
        undefinedCodes();
        undefinedKs();
        undefinedDoesNothing();
        registerForms();
        traces();
        tellsNoMore();
        writesOverItself();
        Check.end();
    }

    private static SegmentBench bench(String text) {
        return Check.loaded(START + text, PARAGRAPH);
    }

    private static SegmentBench after(String text) {
        SegmentBench bench = bench(text + "hlt;");
        int answer = bench.run(400);
        Check.same("run " + text, "" + answer, "0");
        return bench;
    }

    private static void word(SegmentBench bench, int address, int want) {
        Check.due("low at " + address, () -> bench.memory(address & 4095), want & 255);
        Check.due("high at " + address, () -> bench.memory(address + 1 & 4095), want >> 8);
    }

    /** "sp falls by 2, then ss:sp is the value (sp: as before)" */
    private static void pushes() {
        int[][] rows = {{0, 65534}, {1, 65535}, {2, 0}, {3, 1}, {65535, 65533}, {400, 398}};
        for (int[] row : rows) {
            SegmentBench value = after("mov ax,8;mov ss,ax;mov sp," + row[0] + ";mov ax,772;push ax;");
            Check.due("sp from " + row[0], () -> value.register(4), row[1]);
            word(value, 128 + row[1], 772);
            SegmentBench own = after("mov ax,8;mov ss,ax;mov sp," + row[0] + ";push sp;");
            Check.due("sp from " + row[0], () -> own.register(4), row[1]);
            word(own, 128 + row[1], row[0]);
        }
        String[] s = {"es", "cs", "ss", "ds"};
        int[] want = {77, PARAGRAPH, 8, 99};
        for (int i = 0; i < 4; i++) {
            SegmentBench bench = after("mov ax,77;mov es,ax;mov ax,99;mov ds,ax;mov ax,8;mov ss,ax;push " + s[i] + ";");
            word(bench, 128 - 2, want[i]);
        }
        SegmentBench flags = after("cmp ax,1;push ax;pop bx;");
        Check.same("flags", Check.registers(flags, 13, 16), "1 0 1");
    }

    /** "pop: that, then sp rises by 2, then the register gets it" */
    private static void pops() {
        int[][] rows = {{0, 2}, {65534, 0}, {65535, 1}, {65533, 65535}, {100, 102}};
        for (int[] row : rows) {
            SegmentBench bench = after("mov ax,64;mov ss,ax;mov ds,ax;mov [" + row[0] + "],772;mov sp," + row[0]
                    + ";pop bx;");
            Check.due("sp from " + row[0], () -> bench.register(4), row[1]);
            Check.due("bx from " + row[0], () -> bench.register(3), 772);
        }
        SegmentBench sp = after("mov sp,100;mov ax,772;push ax;pop sp;");
        Check.due("pop sp", () -> sp.register(4), 772);
        SegmentBench ss = after("mov sp,100;mov ax,772;push ax;pop ss;");
        Check.due("pop ss", () -> ss.register(10), 772);
        Check.due("sp", () -> ss.register(4), 100);
        SegmentBench es = after("mov ax,772;push ax;push ax;pop es;pop ds;");
        Check.same("es ds", es.register(8) + " " + es.register(11), "772 772");
        SegmentBench stays = after("mov sp,100;mov ax,772;push ax;pop bx;");
        word(stays, BASE + 98, 772);
    }

    /** "call: IP behind it is pushed, IP is that plus DD"; "ret: IP is popped" */
    private static void calls() {
        SegmentBench call = bench("mov sp,200;call f;hlt;f:ret;");
        call.run(2);
        Check.same("IP sp", call.register(12) + " " + call.register(4), "7 198");
        word(call, BASE + 198, 6);
        Check.due("ret", () -> call.run(1), 3);
        Check.same("IP sp", call.register(12) + " " + call.register(4), "6 200");
        SegmentBench back = bench("jmp x;f:hlt;x:call f;");
        Check.due("back", () -> back.run(9), 0);
        Check.due("IP", () -> back.register(12), 3);
        SegmentBench wraps = bench("byte 232,252,255;");
        wraps.run(1);
        Check.due("below 0", () -> wraps.register(12), 65535);
        SegmentBench high = bench("mov ax,65535;push ax;ret;");
        high.run(3);
        Check.same("IP sp cs", high.register(12) + " " + high.register(4) + " " + high.register(9), "65535 0 32");
    }

    /** "callf: cs, then IP are pushed, then both are as said there"; "retf: IP, then cs" */
    private static void farCalls() {
        SegmentBench bench = bench("mov sp,200;byte 154,4,3,2,1;");
        bench.run(2);
        Check.same("IP cs sp", bench.register(12) + " " + bench.register(9) + " " + bench.register(4), "772 258 196");
        word(bench, BASE + 198, PARAGRAPH);
        word(bench, BASE + 196, 8);
        SegmentBench back = bench("mov ax,258;push ax;mov ax,772;push ax;retf;");
        back.run(5);
        Check.same("IP cs sp", back.register(12) + " " + back.register(9) + " " + back.register(4), "772 258 0");
        SegmentBench both = Check.loaded("seg c 1;public main;main:callf g;hlt;seg d 1;ret;g:retf;", 4);
        Check.due("there and back", () -> both.run(3), 0);
        Check.same("IP cs sp", both.register(12) + " " + both.register(9) + " " + both.register(4), "6 4 0");
    }

    /** "loop: cx falls by 1; not 0: jumps" */
    private static void loops() {
        int[][] rows = {{2, 1, 1}, {1, 0, 0}, {0, 65535, 1}, {65535, 65534, 1}, {32768, 32767, 1}};
        for (int[] row : rows) {
            SegmentBench bench = bench("mov cx," + row[0] + ";loop x;hlt;x:hlt;");
            Check.due("loop", () -> bench.run(3), 0);
            Check.due("cx from " + row[0], () -> bench.register(1), row[1]);
            Check.due("jumps from " + row[0], () -> bench.register(12), 6 + row[2]);
        }
        for (int carry = 0; carry < 2; carry++) {
            SegmentBench flags = after("mov cx,1;cmp ax," + carry + ";loop x;x:");
            Check.same("no flag", Check.registers(flags, 13, 16), carry == 1 ? "1 0 1" : "0 1 0");
        }
    }

    /** Each flag alone says where its two go. */
    private static void branches() {
        // C Z S after each: 0 0 0, 1 0 0, 0 1 0, 1 1 0, 0 0 1, 1 0 1.
        String[] sets = {"mov ax,2;cmp ax,1;", "mov ax,32769;shl ax;", "cmp ax,0;", "mov ax,1;shr ax;",
            "mov ax,32768;cmp ax,0;", "cmp ax,1;"};
        int[][] flags = {{0, 0, 0}, {1, 0, 0}, {0, 1, 0}, {1, 1, 0}, {0, 0, 1}, {1, 0, 1}};
        String[] words = {"jc", "jnc", "jz", "jnz", "js", "jns"};
        for (int s = 0; s < sets.length; s++) {
            for (int w = 0; w < words.length; w++) {
                SegmentBench bench = after(sets[s] + words[w] + " x;mov bx,1;x:");
                String what = words[w] + " behind " + sets[s];
                Check.same(what, Check.registers(bench, 13, 16), flags[s][0] + " " + flags[s][1] + " " + flags[s][2]);
                boolean jumps = flags[s][w / 2] == 1 - w % 2;
                Check.due(what, () -> bench.register(3), jumps ? 0 : 1);
            }
        }
    }

    /** The D of -128 .. 127 and the DD as they are run. */
    private static void distances() {
        int[] first = {235, 115, 117, 121};
        for (int code : first) {
            jumped("byte " + code + ",127;", 129);
            jumped("byte " + code + ",128;", 65536 + 2 - 128);
            jumped("byte " + code + ",255;", 1);
            jumped("byte " + code + ",0;", 2);
        }
        for (int code : new int[] {114, 116, 120}) {
            jumped("byte " + code + ",127;", 2);
            jumped("byte " + code + ",128;", 2);
        }
        jumped("byte 226,128;", 65536 + 2 - 128);
        jumped("byte 226,127;", 129);
        jumped("byte 233,255,127;", 32770);
        jumped("byte 233,0,128;", 32771);
        jumped("byte 233,253,255;", 0);
        jumped("byte 232,255,127;", 32770);
        jumped("byte 232,252,255;", 65535);
    }

    private static void jumped(String text, int ip) {
        SegmentBench bench = bench(text);
        Check.due("run " + text, () -> bench.run(1), 3);
        Check.due("IP of " + text, () -> bench.register(12), ip);
    }

    /** "fuel 1 .. 400", "INSTRUCTIONS are done, at most fuel", "3 fuel were done" */
    private static void fuel() {
        for (int wrong : new int[] {0, -1, 401, 402, Integer.MIN_VALUE, Integer.MAX_VALUE}) {
            Check.changesNothing("fuel " + wrong, () -> bench("inc ax;hlt;"), x -> x.run(wrong),
                    IllegalArgumentException.class);
        }
        for (int right : new int[] {1, 2, 399, 400}) {
            SegmentBench forever = bench("jmp main;");
            Check.due("fuel " + right, () -> forever.run(right), 3);
            Check.due("done of " + right, () -> forever.count(5), right);
            Check.due("goes on", () -> forever.count(7), 0);
        }
        String[] ends = {"hlt;", "div bx;", "byte 255;"};
        for (int end = 0; end < 3; end++) {
            String text = "inc ax;inc ax;" + ends[end];
            int told = end;
            SegmentBench less = bench(text);
            Check.due("2 of " + text, () -> less.run(2), 3);
            Check.due("not halted", () -> less.count(7), 0);
            Check.due("the end of " + text, () -> less.run(1), told);
            SegmentBench just = bench(text);
            Check.due("3 of " + text, () -> just.run(3), told);
            Check.due("IP of " + text, () -> just.register(12), end == 0 ? 3 : 2);
            Check.due("done of " + text, () -> just.count(5), end == 0 ? 3 : 2);
            SegmentBench more = bench(text);
            Check.due("400 of " + text, () -> more.run(400), told);
            Check.due("done of " + text, () -> more.count(5), end == 0 ? 3 : 2);
            Check.changesNothing("halted " + text, () -> ran(text), x -> x.run(1), IllegalStateException.class);
        }
    }

    private static SegmentBench ran(String text) {
        SegmentBench bench = bench(text);
        bench.run(400);
        return bench;
    }

    /** "hlt (IP behind it)", and a load lets it go on. */
    private static void halts() {
        SegmentBench bench = ran("hlt;");
        Check.same("IP done halted", bench.register(12) + " " + bench.count(5) + " " + bench.count(7), "1 1 1");
        Check.thrown("halted", () -> bench.run(400), IllegalStateException.class);
        Check.thrown("the range is first", () -> bench.run(401), IllegalArgumentException.class);
        bench.load(PARAGRAPH);
        Check.same("IP done halted", bench.register(12) + " " + bench.count(5) + " " + bench.count(7), "0 0 0");
        Check.due("again", () -> bench.run(1), 0);
        Check.due("a new object has halted", () -> new SegmentBench().count(7), 1);
    }

    private static boolean[] known() {
        boolean[] known = new boolean[256];
        int[] codes = {139, 137, 199, 142, 140, 129, 209, 247, 235, 233, 114, 115, 116, 117, 120, 121, 226, 232, 154,
            195, 203, 205, 244, 6, 14, 22, 30, 7, 23, 31, 1, 3, 9, 11, 33, 35, 41, 43, 49, 51, 57, 59};
        for (int code : codes) {
            known[code] = true;
        }
        for (int code = 64; code < 96; code++) {
            known[code] = true;
        }
        for (int code = 184; code < 192; code++) {
            known[code] = true;
        }
        return known;
    }

    /** "others: UNDEFINED" */
    private static void undefinedCodes() {
        boolean[] known = known();
        for (int code = 0; code < 256; code++) {
            // k 0 for those that have it, else 4.
            int m = code == 129 || code == 140 || code == 142 || code == 199 ? 195 : 227;
            SegmentBench bench = bench("mov bx,5;byte " + code + "," + m + ",0,0;hlt;");
            int answer = known[code] ? code == 244 ? 0 : 3 : 2;
            Check.due("code " + code, () -> bench.run(2), answer);
            if (!known[code]) {
                Check.same("code " + code, Check.registers(bench, 0, 16), "0 0 0 5 0 0 0 0 32 32 32 32 3 0 0 0");
                Check.same("done and halted", bench.count(5) + " " + bench.count(7), "1 1");
            }
        }
    }

    /** "another k behind 129, 199, 209, 247, k above 3 behind 140, 142, 1 behind 142: UNDEFINED" */
    private static void undefinedKs() {
        String[] rows = {"129 01.4567", "199 0", "209 45", "247 346", "140 0123", "142 023"};
        int[] forms = {0, 64, 128, 192};
        for (String row : rows) {
            for (int k = 0; k < 8; k++) {
                for (int form : forms) {
                    String code = row.substring(0, 3);
                    boolean isKnown = row.substring(4).indexOf('0' + k) >= 0;
                    SegmentBench bench = bench("mov bx,5;mov [bx],0;byte " + code + "," + (form + 8 * k + 7)
                            + ",0,0,0,0;");
                    int answer = !isKnown ? 2 : code.equals("247") && k == 6 ? 1 : 3;
                    Check.due(code + " " + form + " k " + k, () -> bench.run(3), answer);
                    if (answer != 3) {
                        Check.due("IP", () -> bench.register(12), 7);
                    }
                }
            }
        }
    }

    /** "nothing is done, IP is that of its first byte" */
    private static void undefinedDoesNothing() {
        String[] texts = {"byte 255;", "byte 0;", "byte 129,211,5,0;", "byte 199,203,5,0;", "byte 209,195;",
            "byte 209,7;", "byte 247,195;", "byte 140,227;", "byte 142,203;", "byte 142,227;", "byte 15;",
            "byte 247,135,1,0;"};
        for (String text : texts) {
            String set = "mov bx,600;mov sp,300;mov [bx],772;cmp ax,1;";
            SegmentBench bench = bench(set + text);
            Check.due(text, () -> bench.run(400), 2);
            Check.same(text, Check.registers(bench, 0, 16), "0 0 0 600 300 0 0 0 32 32 32 32 14 1 0 1");
            word(bench, BASE + 600, 772);
            Check.same("done and halted", bench.count(5) + " " + bench.count(7), "4 1");
        }
    }

    /** "also 64 a + 8 k + b with a 3 where the table has MEMORY" */
    private static void registerForms() {
        String set = "mov ax,12;mov cx,10;";
        String[] codes = {"1,200", "9,200", "33,200", "41,200", "49,200", "57,200", "137,200", "199,192,5,0"};
        int[] ax = {22, 14, 8, 2, 6, 12, 10, 5};
        for (int i = 0; i < codes.length; i++) {
            SegmentBench bench = after(set + "byte " + codes[i] + ";");
            Check.same(codes[i], Check.registers(bench, 0, 2), ax[i] + " 10");
        }
        for (int r = 0; r < 8; r++) {
            SegmentBench bench = after("byte 199," + (192 + r) + ",4,3;");
            int register = r;
            Check.due("199 of " + r, () -> bench.register(register), 772);
        }
    }

    /** "of the first 30 since the latest load: 65536 times n plus ax" */
    private static void traces() {
        int[][] rows = {{0, 0}, {255, 65535}, {0, 65535}, {255, 0}, {1, 32768}, {128, 1}};
        for (int[] row : rows) {
            SegmentBench bench = after("mov ax," + row[1] + ";int " + row[0] + ";");
            Check.due("trace", () -> bench.trace(0), 65536L * row[0] + row[1]);
            Check.thrown("one", () -> bench.trace(1), IndexOutOfBoundsException.class);
        }
        for (int n : new int[] {29, 30, 31}) {
            SegmentBench bench = after("mov cx," + n + ";x:inc ax;int 9;loop x;");
            Check.due("ints", () -> bench.count(6), n);
            Check.due("29th", () -> bench.trace(28), 9 * 65536 + 29);
            if (n == 29) {
                Check.thrown("30th", () -> bench.trace(29), IndexOutOfBoundsException.class);
            } else {
                Check.due("30th", () -> bench.trace(29), 9 * 65536 + 30);
            }
            Check.thrown("31st", () -> bench.trace(30), IndexOutOfBoundsException.class);
            for (int at : new int[] {-1, 31, 1000, Integer.MIN_VALUE, Integer.MAX_VALUE}) {
                Check.thrown("trace " + at, () -> bench.trace(at), IndexOutOfBoundsException.class);
            }
        }
    }

    /** "int n: told in the TRACE", and nothing else; a load tells anew. */
    private static void tellsNoMore() {
        SegmentBench bench = bench("cmp ax,1;mov ax,7;int 5;");
        bench.run(2);
        String before = Check.registers(bench, 0, 12) + Check.registers(bench, 13, 16);
        bench.run(1);
        Check.same("int", Check.registers(bench, 0, 12) + Check.registers(bench, 13, 16), before);
        Check.due("IP", () -> bench.register(12), 9);
        Check.due("told", () -> bench.trace(0), 5 * 65536 + 7);
        bench.load(PARAGRAPH);
        Check.thrown("no more", () -> bench.trace(0), IndexOutOfBoundsException.class);
        Check.due("ints", () -> bench.count(6), 0);
        bench.run(3);
        Check.due("told again", () -> bench.trace(0), 5 * 65536 + 7);
        Check.due("ints", () -> bench.count(6), 1);
    }

    /** The bytes that are run are those that are there when they are fetched. */
    private static void writesOverItself() {
        SegmentBench bench = bench("mov [6],62536;byte 255,255;");
        Check.due("dec ax and hlt", () -> bench.run(3), 0);
        Check.due("ax", () -> bench.register(0), 65535);
    }
}
