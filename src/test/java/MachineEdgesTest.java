/** Terms, the machine: wraps, carries, what is kept and what ends a run, sentence by sentence. */
public final class MachineEdgesTest {
    private static final String START = "seg c 1;public main;main:";
    private static final int PARAGRAPH = 32;
    private static final int[] EDGES = {0, 1, 2, 255, 256, 32767, 32768, 32769, 65534, 65535};

    public static void main(String[] args) {
        memoryWraps();
        stackOrData();
        displacementSigns();
        ipWraps();
        sumsAndDifferences();
        bitwise();
        keepsItsM();
        negates();
        shifts();
        steps();
        multiplies();
        divides();
        dividesNot();
        Check.end();
    }

    private static SegmentBench after(String text) {
        SegmentBench bench = Check.loaded(START + text + "hlt;", PARAGRAPH);
        int answer = bench.run(400);
        Check.same("run " + text, "" + answer, "0");
        return bench;
    }

    /** ax cx dx bx, then C Z S. */
    private static void due(String text, String registers, String flags) {
        SegmentBench bench = after(text);
        Check.same("registers of " + text, Check.registers(bench, 0, 4), registers);
        Check.same("flags of " + text, Check.registers(bench, 13, 16), flags);
    }

    private static String flags(int carry, int result) {
        return carry + " " + (result == 0 ? 1 : 0) + " " + (result >> 15 & 1);
    }

    /** "byte (16 times S plus x modulo 65536) modulo 4096; two bytes at S:x are those at x and x + 1" */
    private static void memoryWraps() {
        int[][] places = {{0, 4095}, {255, 15}, {256, 4095}, {255, 16}, {256, 0}, {4095, 15}, {65535, 15},
            {65535, 16}, {4096, 65535}, {0, 65535}, {0, 61439}, {1, 65519}, {0, 2048}};
        for (int[] place : places) {
            SegmentBench bench = after("mov ax," + place[0] + ";mov ds,ax;mov [" + place[1] + "],772;mov cx,["
                    + place[1] + "];");
            int at = (16 * place[0] + place[1] % 65536) % 4096;
            String what = place[0] + ":" + place[1];
            Check.due(what + " low", () -> bench.memory(at), 4);
            Check.due(what + " high", () -> bench.memory((at + 1) % 4096), 3);
            Check.due(what + " read", () -> bench.register(1), 772);
        }
    }

    /** "ds:x, but ss:x for b 2, 3, and 6 with a not 0" */
    private static void stackOrData() {
        String set = "mov ax,64;mov ds,ax;mov ax,128;mov ss,ax;mov ax,192;mov es,ax;mov bx,16;mov bp,32;mov si,4;mov di,8;"
                + "mov ax,513;";
        int data = 64 * 16;
        int stack = 128 * 16;
        int[] sums = {20, 24, 36, 40, 4, 8, 32, 16};
        for (int b = 0; b < 8; b++) {
            int base = b == 2 || b == 3 || b == 6 ? stack : data;
            stored(set, "137," + b + (b == 6 ? ",100,0" : ""), b == 6 ? data + 100 : base + sums[b]);
            stored(set, "137," + (64 + b) + ",3", base + sums[b] + 3);
            stored(set, "137," + (64 + b) + ",0", base + sums[b]);
            stored(set, "137," + (128 + b) + ",44,1", base + sums[b] + 300);
        }
    }

    private static void stored(String set, String code, int at) {
        SegmentBench bench = after(set + "byte " + code + ";");
        Check.due(code + " low", () -> bench.memory(at), 1);
        Check.due(code + " high", () -> bench.memory(at + 1), 2);
    }

    /** "the DISPLACEMENT (one byte with its sign)" */
    private static void displacementSigns() {
        int[][] rows = {{127, 127}, {128, -128}, {255, -1}, {0, 0}};
        for (int[] row : rows) {
            stored("mov bx,1000;mov ax,513;", "137,71," + row[0], 16 * PARAGRAPH + 1000 + row[1]);
        }
        stored("mov bx,1000;mov ax,513;", "137,135,128,0", 16 * PARAGRAPH + 1128);
        stored("mov bx,1000;mov ax,513;", "137,135,128,255", 16 * PARAGRAPH + 872);
        stored("mov bx,65535;mov si,65535;mov ax,513;", "137,64,127", 16 * PARAGRAPH + 125);
        stored("mov bx,1;mov ax,513;", "137,71,254", 16 * PARAGRAPH - 1);
    }

    /** IP has 16 bits, and an instruction may lie over its end and over the memory's. */
    private static void ipWraps() {
        // inc ax at 65535, hlt at 0, where mov [65535] has put it in the place of its own first byte.
        SegmentBench bench = Check.loaded(START + "mov [65535],62528;jmp x;space 64;space 64;x:jmp main;", 1);
        Check.due("to 0", () -> bench.run(3), 3);
        Check.due("at 0", () -> bench.register(12), 0);
        Check.due("hlt there", () -> bench.run(1), 0);
        Check.due("behind it", () -> bench.register(12), 1);
        SegmentBench over = Check.loaded(START + "mov [65535],62528;byte 235,247;", 1);
        Check.due("below 0", () -> over.run(2), 3);
        Check.due("65535", () -> over.register(12), 65535);
        Check.due("inc ax, then hlt at 0", () -> over.run(2), 0);
        Check.due("ax", () -> over.register(0), 1);
        Check.due("IP", () -> over.register(12), 1);
        SegmentBench last = Check.loaded(START + "jmp x;space 10;x:mov ax,772;hlt;", 255);
        Check.due("over the end of the memory", () -> last.run(9), 0);
        Check.due("4092", () -> last.memory(4092), 184);
        Check.due("ax", () -> last.register(0), 772);
        Check.due("IP", () -> last.register(12), 16);
        SegmentBench split = Check.loaded(START + "jmp x;space 12;x:mov ax,772;hlt;", 255);
        Check.due("over the end of the memory", () -> split.run(9), 0);
        Check.due("4095", () -> split.memory(4095), 4);
        Check.due("0", () -> split.memory(0), 3);
        Check.due("ax", () -> split.register(0), 772);
    }

    /** "add, sub, cmp ..: C is what is carried or borrowed; Z the 16 bits are 0, S the highest of them" */
    private static void sumsAndDifferences() {
        for (int a : EDGES) {
            for (int b : EDGES) {
                String set = "mov ax," + a + ";mov bx," + b + ";";
                int sum = a + b & 65535;
                int rest = a - b & 65535;
                due(set + "add ax,bx;", sum + " 0 0 " + b, flags(a + b > 65535 ? 1 : 0, sum));
                due(set + "sub ax,bx;", rest + " 0 0 " + b, flags(a < b ? 1 : 0, rest));
                due(set + "cmp ax,bx;", a + " 0 0 " + b, flags(a < b ? 1 : 0, rest));
                due(set + "add ax," + b + ";", sum + " 0 0 " + b, flags(a + b > 65535 ? 1 : 0, sum));
                due(set + "mov [500],ax;sub [500],bx;mov cx,[500];", a + " " + rest + " 0 " + b,
                        flags(a < b ? 1 : 0, rest));
            }
        }
    }

    /** "and, or, xor: C 0" */
    private static void bitwise() {
        for (String carry : new String[] {"cmp cx,1;", "cmp cx,0;"}) {
            for (int a : EDGES) {
                for (int b : EDGES) {
                    String set = carry + "mov ax," + a + ";mov bx," + b + ";";
                    due(set + "and ax,bx;", (a & b) + " 0 0 " + b, flags(0, a & b));
                    due(set + "or ax," + b + ";", (a | b) + " 0 0 " + b, flags(0, a | b));
                    due(set + "xor ax,bx;", (a ^ b) + " 0 0 " + b, flags(0, a ^ b));
                }
            }
        }
    }

    /** "cmp keeps its M", the others do not. */
    private static void keepsItsM() {
        String set = "mov [500],12;mov ax,10;";
        String[] words = {"add", "or", "and", "sub", "xor", "cmp"};
        int[] want = {22, 14, 8, 2, 6, 12};
        int[] other = {22, 14, 8, 65534, 6, 10};
        for (int i = 0; i < words.length; i++) {
            kept(set + words[i] + " [500],ax;mov cx,[500];", "10 " + want[i] + " 0 0");
            kept(set + words[i] + " [500],10;mov cx,[500];", "10 " + want[i] + " 0 0");
            kept(set + words[i] + " ax,[500];mov cx,[500];", other[i] + " 12 0 0");
            kept(set + "mov cx,12;" + words[i] + " cx,10;", "10 " + want[i] + " 0 0");
        }
    }

    private static void kept(String text, String registers) {
        Check.same("registers of " + text, Check.registers(after(text), 0, 4), registers);
    }

    /** "neg: C is what is .. borrowed", from 0. */
    private static void negates() {
        for (int a : EDGES) {
            int result = -a & 65535;
            due("mov ax," + a + ";neg ax;", result + " 0 0 0", flags(a == 0 ? 0 : 1, result));
            due("cmp cx,1;mov [500]," + a + ";neg [500];mov ax,[500];", result + " 0 0 0", flags(a == 0 ? 0 : 1, result));
        }
    }

    /** "shl, shr by one: C the bit that goes out" */
    private static void shifts() {
        for (int a : EDGES) {
            int left = a * 2 & 65535;
            due("mov ax," + a + ";shl ax;", left + " 0 0 0", flags(a / 32768, left));
            due("mov ax," + a + ";shr ax;", a / 2 + " 0 0 0", flags(a % 2, a / 2));
            due("cmp cx,1;mov [500]," + a + ";shl [500];mov ax,[500];", left + " 0 0 0", flags(a / 32768, left));
            due("cmp cx,1;mov [500]," + a + ";shr [500];mov ax,[500];", a / 2 + " 0 0 0", flags(a % 2, a / 2));
        }
    }

    /** "inc, dec: Z, S alone" */
    private static void steps() {
        for (int a : EDGES) {
            for (int carry = 0; carry < 2; carry++) {
                String set = "cmp cx," + carry + ";mov ax," + a + ";";
                int up = a + 1 & 65535;
                int down = a - 1 & 65535;
                due(set + "inc ax;", up + " 0 0 0", flags(carry, up));
                due(set + "dec ax;", down + " 0 0 0", flags(carry, down));
            }
        }
    }

    /** "dx and ax are the higher and lower half of ax times M, C: dx is not 0, nothing else" */
    private static void multiplies() {
        for (int a : EDGES) {
            for (int b : EDGES) {
                long product = (long) a * b;
                long high = product >> 16;
                String want = (product & 65535) + " 0 " + high + " " + b;
                due("mov dx,7;mov ax," + a + ";mov bx," + b + ";mul bx;", want, (high == 0 ? 0 : 1) + " 0 0");
                due("cmp cx,1;mov [500]," + b + ";mov ax," + a + ";mov bx," + b + ";mul [500];", want,
                        (high == 0 ? 0 : 1) + " 0 1");
            }
        }
        due("cmp cx,0;mov ax,255;mov bx,257;mul bx;", "65535 0 0 257", "0 1 0");
        due("cmp cx,0;mov ax,256;mul ax;", "0 0 1 0", "1 1 0");
        due("mov ax,300;mov dx,400;mul dx;", (120000 & 65535) + " 0 1 0", "1 0 0");
    }

    /** "ax is dx and ax (65536 dx + ax) / M, dx the rest", and no flag. */
    private static void divides() {
        long[][] rows = {{0, 1}, {5, 1}, {65535, 1}, {65536, 2}, {131071, 2}, {65535, 65535}, {65534, 65535},
            {4294901760L - 1, 65535}, {4294836224L, 65535}, {2147450879L, 32768}, {100000, 7}};
        for (long[] row : rows) {
            String want = row[0] / row[1] + " 0 " + row[0] % row[1] + " " + row[1];
            String set = "mov dx," + (row[0] >> 16) + ";mov ax," + (row[0] & 65535) + ";mov bx," + row[1] + ";";
            due(set + "div bx;", want, "0 0 0");
            due("cmp cx,1;" + set + "div bx;", want, "1 0 1");
            due("cmp cx,0;mov [500]," + row[1] + ";" + set + "div [500];", want, "0 1 0");
        }
        due("mov ax,9;div ax;", "1 0 0 0", "0 0 0");
    }

    /** "M 0 or ax above 65535: DIVIDE, nothing is done, IP that of its first byte" */
    private static void dividesNot() {
        long[][] rows = {{0, 0}, {5, 0}, {65536, 1}, {131072, 2}, {4294967295L, 0}, {4294967295L, 1},
            {4294967295L, 65535}, {4294901760L, 65535}, {2147483648L, 32768}};
        for (long[] row : rows) {
            String set = "mov dx," + (row[0] >> 16) + ";mov ax," + (row[0] & 65535) + ";mov bx," + row[1] + ";cmp cx,1;";
            SegmentBench bench = Check.loaded(START + set + "div bx;hlt;", PARAGRAPH);
            String what = row[0] + " / " + row[1];
            Check.due(what, () -> bench.run(400), 1);
            Check.same(what, Check.registers(bench, 0, 4), (row[0] & 65535) + " 0 " + (row[0] >> 16) + " " + row[1]);
            Check.same(what, Check.registers(bench, 12, 16), "13 1 0 1");
            Check.due(what + ": done", () -> bench.count(5), 4);
            Check.due(what + ": halted", () -> bench.count(7), 1);
            Check.thrown(what + ": again", () -> bench.run(1), IllegalStateException.class);
        }
        SegmentBench byDx = Check.loaded(START + "mov dx,1;div dx;", PARAGRAPH);
        Check.due("by dx", () -> byDx.run(2), 1);
        SegmentBench memory = Check.loaded(START + "inc ax;div [500];", PARAGRAPH);
        Check.due("by memory", () -> memory.run(400), 1);
        Check.due("IP", () -> memory.register(12), 1);
    }
}
