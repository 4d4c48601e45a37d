/** Terms, bytes: every form with every register, and displacements at their edges. */
public final class ByteEdgesTest {
    private static final String SEG = "seg c 1;";
    private static final String[] R = {"ax", "cx", "dx", "bx", "sp", "bp", "si", "di"};
    private static final String[] S = {"es", "cs", "ss", "ds"};
    /** By b; "" for none of the four registers, which has the b of bp. */
    private static final String[] MEMORY = {"bx+si", "bx+di", "bp+si", "bp+di", "si", "di", "bp", "bx", ""};
    private static final int BP = 6;
    private static final int NONE = 8;

    public static void main(String[] args) {
        numbers();
        moves();
        arithmetic();
        singleRegisters();
        singles();
        displacements();
        sums();
        namesInBrackets();
        offsets();
        fixupKinds();
        fixupOrder();
        lists();
        Check.end();
    }

    private static void due(String text, String bytes) {
        SegmentBench bench = Check.modules(SEG + text);
        Check.same(text, Check.bytes(bench, 0, 0), bytes);
    }

    /** "V as two bytes (the lower one first): NUMBER" */
    private static void numbers() {
        due("word 0,1,255,256,257,32767,32768,65534,65535;",
                "0 0 1 0 255 0 0 1 1 1 255 127 0 128 254 255 255 255");
        due("mov cx,65535;mov dx,256;", "185 255 255 186 0 1");
        due("add cx,65535;mov [bx],256;", "129 193 255 255 199 7 0 1");
        due("byte 0,1,127,128,254,255;", "0 1 127 128 254 255");
        due("int 0;int 255;", "205 0 205 255");
        due("space 0;ret;space 1;ret;space 2;", "195 0 195 0 0");
    }

    /** "mov R, M 139, M r | mov MEMORY, R 137, M r | mov R, V 184 + r, V | .. mov R, S 140, M s" */
    private static void moves() {
        for (int r = 0; r < 8; r++) {
            for (int q = 0; q < 8; q++) {
                due("mov " + R[r] + "," + R[q] + ";", "139 " + (192 + 8 * r + q));
            }
            for (int b = 0; b < 8; b++) {
                if (b != BP) {
                    due("mov " + R[r] + ",[" + MEMORY[b] + "];", "139 " + (8 * r + b));
                    due("mov [" + MEMORY[b] + "]," + R[r] + ";", "137 " + (8 * r + b));
                }
            }
            due("mov " + R[r] + ",772;", (184 + r) + " 4 3");
            for (int s = 0; s < 4; s++) {
                due("mov " + R[r] + "," + S[s] + ";", "140 " + (192 + 8 * s + r));
                due("mov [si]," + S[s] + ";", "140 " + (8 * s + 4));
                if (s != 1) {
                    due("mov " + S[s] + "," + R[r] + ";", "142 " + (192 + 8 * s + r));
                    due("mov " + S[s] + ",[di];", "142 " + (8 * s + 5));
                }
            }
        }
        due("mov [di],772;", "199 5 4 3");
    }

    /** "add 0, or 1, and 4, sub 5, xor 6, cmp 7, with this n" */
    private static void arithmetic() {
        String[] words = {"add", "or", "and", "sub", "xor", "cmp"};
        int[] ns = {0, 1, 4, 5, 6, 7};
        for (int i = 0; i < words.length; i++) {
            int n = ns[i];
            for (int r = 0; r < 8; r++) {
                for (int q = 0; q < 8; q++) {
                    due(words[i] + " " + R[r] + "," + R[q] + ";", (8 * n + 3) + " " + (192 + 8 * r + q));
                }
                due(words[i] + " " + R[r] + ",[bx];", (8 * n + 3) + " " + (8 * r + 7));
                due(words[i] + " [bx]," + R[r] + ";", (8 * n + 1) + " " + (8 * r + 7));
                due(words[i] + " " + R[r] + ",5;", "129 " + (192 + 8 * n + r) + " 5 0");
            }
            due(words[i] + " [si],256;", "129 " + (8 * n + 4) + " 0 1");
            due(words[i] + " [5],c;", "129 " + (8 * n + 6) + " 5 0 0 0");
        }
    }

    /** "inc R 64 + r | dec R 72 + r | push R 80 + r | pop R 88 + r | push S 6 + 8 s | pop S (not cs) 7 + 8 s" */
    private static void singleRegisters() {
        for (int r = 0; r < 8; r++) {
            due("inc " + R[r] + ";dec " + R[r] + ";push " + R[r] + ";pop " + R[r] + ";",
                    (64 + r) + " " + (72 + r) + " " + (80 + r) + " " + (88 + r));
        }
        for (int s = 0; s < 4; s++) {
            due("push " + S[s] + ";", "" + (6 + 8 * s));
            if (s != 1) {
                due("pop " + S[s] + ";", "" + (7 + 8 * s));
            }
        }
        due("ret;retf;hlt;", "195 203 244");
    }

    /** "shl M 209, M 4 | shr M 209, M 5 | neg M 247, M 3 | mul M 247, M 4 | div M 247, M 6" */
    private static void singles() {
        String[] words = {"shl", "shr", "neg", "mul", "div"};
        int[] codes = {209, 209, 247, 247, 247};
        int[] ks = {4, 5, 3, 4, 6};
        for (int i = 0; i < words.length; i++) {
            for (int r = 0; r < 8; r++) {
                due(words[i] + " " + R[r] + ";", codes[i] + " " + (192 + 8 * ks[i] + r));
            }
            due(words[i] + " [bp+di];", codes[i] + " " + (8 * ks[i] + 3));
            due(words[i] + " [bp];", codes[i] + " " + (64 + 8 * ks[i] + 6) + " 0");
            due(words[i] + " [300];", codes[i] + " " + (8 * ks[i] + 6) + " 44 1");
        }
    }

    /** "0 and not bp alone: a 0, none; -128 .. 127: a 1, one byte; else a 2, two bytes; none of the four .." */
    private static void displacements() {
        int[] edges = {0, 1, 126, 127, 128, 129, 255, 256, 32767, 32768, 65407, 65408, 65409, 65534, 65535,
            -1, -127, -128, -129, -130, -255, -256, -32768, -65408, -65409, -65535};
        for (int b = 0; b <= NONE; b++) {
            for (int edge : edges) {
                if (b == NONE && edge < 0) {
                    displaced("0" + edge, b, edge);
                } else {
                    String start = b == NONE ? "" : MEMORY[b];
                    displaced(start + (edge < 0 || b == NONE ? "" : "+") + edge, b, edge);
                }
            }
            if (b < NONE) {
                displaced(MEMORY[b], b, 0);
                displaced(MEMORY[b] + "-0", b, 0);
            }
        }
    }

    private static void displaced(String part, int b, int displacement) {
        int low = displacement & 255;
        int high = (displacement >> 8) & 255;
        int signed = (short) displacement;
        String want;
        if (b == NONE) {
            want = 24 + 6 + " " + low + " " + high;
        } else if (signed == 0 && b != BP) {
            want = "" + (24 + b);
        } else if (signed >= -128 && signed <= 127) {
            want = 64 + 24 + b + " " + low;
        } else {
            want = 128 + 24 + b + " " + low + " " + high;
        }
        due("neg [" + part + "];", "247 " + want);
    }

    /** "the sum of its NUMBERS, wrapping in 16 bits" */
    private static void sums() {
        due("neg [bx+65535+1];", "247 31");
        due("neg [bx+65535+2];", "247 95 1");
        due("neg [bx-1+1];", "247 31");
        due("neg [bx-65535-1];", "247 31");
        due("neg [1+bx+2-3+65535+65535];", "247 95 254");
        due("neg [bx+65535+129];", "247 159 128 0");
        due("neg [bx+65535+128];", "247 95 127");
        due("neg [65535+1];", "247 30 0 0");
        due("neg [0-1];", "247 30 255 255");
        due("neg [65535+65535+65535+65535+5];", "247 30 1 0");
        due("neg [bp+1-1];", "247 94 0");
        due("neg [bx+60000-60000];", "247 31");
        due("neg [1+2+3+4];", "247 30 10 0");
    }

    /** "With a NAME: a 2, two bytes", and without registers b 6 with a 0. */
    private static void namesInBrackets() {
        for (int b = 0; b < NONE; b++) {
            due("x:neg [x+" + MEMORY[b] + "];", "247 " + (128 + 24 + b) + " 0 0");
            due("ret;x:neg [" + MEMORY[b] + "+x];", "195 247 " + (128 + 24 + b) + " 1 0");
        }
        due("x:neg [x];", "247 30 0 0");
        due("ret;x:neg [x-1];", "195 247 30 0 0");
        due("ret;x:neg [x-2];", "195 247 30 255 255");
        due("ret;x:neg [bx+x+65535];", "195 247 159 0 0");
        due("neg [c+300];neg [bp+c-1];", "247 30 44 1 247 158 255 255");
        due("extern e;neg [e];neg [e+si+5];", "247 30 0 0 247 156 5 0");
    }

    /** "its OFFSET, that of the LABEL in this MODULE's part of its SEGMENT, 0 for a SEGMENT, EXTERN" */
    private static void offsets() {
        due("x:word x;y:word y;word z;z:;", "0 0 2 0 6 0");
        due("space 64;space 64;space 64;space 63;x:space 1;y:word x,y;",
                Check.times("0 ", 256) + "255 0 0 1");
        due("ret;seg d 1;ret;ret;y:;seg c 1;word y,d,c;", "195 2 0 0 0 0 0");
        due("extern e;word e,@e,@c,@x;x:;", "0 0 0 0 0 0 0 0");
        SegmentBench bench = Check.modules("seg c 1;ret;x:;", "seg c 1;x:word x;", "seg c 1;space 9;x:word x;");
        Check.same("each its own", Check.bytes(bench, 1, 0), "0 0");
        Check.due("each its own", () -> bench.code(2, 0, 9), 9);
    }

    private static void fixed(String text, String fixups) {
        Check.same(text, Check.fixups(Check.modules(text), 0), fixups);
    }

    /** Kind 0 for NAME, 1 for @ NAME, 2 for an EXTERN of jmp and call; none for numbers and near labels. */
    private static void fixupKinds() {
        String both = "extern e;seg c 1;ret;x:;";
        fixed(both + "word 5;", "");
        fixed(both + "word x;", "0/0/1/0");
        fixed(both + "word c;", "0/0/1/0");
        fixed(both + "word e;", "0/0/1/-1");
        fixed(both + "word @x;", "1/0/1/0");
        fixed(both + "word @c;", "1/0/1/0");
        fixed(both + "word @e;", "1/0/1/-1");
        fixed(both + "mov ax,x;", "0/0/2/0");
        fixed(both + "mov ax,[x];", "0/0/3/0");
        fixed(both + "mov [bx+e],7;", "0/0/3/-1");
        fixed(both + "jmp x;call x;jz x;loop x;", "");
        fixed(both + "jmp e;", "2/0/2/-1");
        fixed(both + "call e;", "2/0/2/-1");
        fixed(both + "callf x;", "0/0/2/0 1/0/4/0");
        fixed(both + "callf e;", "0/0/2/-1 1/0/4/-1");
        fixed(both + "word @x;neg [x];mov ax,@x;mov ax,[x];add [x],@x;add [x],x;word @x,x;",
                "1/0/1/0 0/0/5/0 1/0/8/0 0/0/12/0 0/0/16/0 1/0/18/0 0/0/22/0 0/0/24/0 1/0/26/0 0/0/28/0");
        fixed(both + "seg d 1;ret;ret;callf x;word x,d;", "0/1/3/0 1/1/5/0 0/1/7/0 0/1/9/1");
    }

    /** "in the order of THE TEXT", not of the segments. */
    private static void fixupOrder() {
        fixed("seg c 1;word c;seg d 1;word @c;seg e 1;word d;seg d 1;word e;seg c 1;word @e;",
                "0/0/0/0 1/1/0/0 0/2/0/1 0/1/2/2 1/0/2/2");
        fixed("seg d 1;x:;seg c 1;mov [x],@y;add [bx+y],x;y:;", "0/1/2/0 1/1/4/1 0/1/8/1 0/1/10/0");
        fixed("seg c 1;ret;x:jmp y;word x;space 64;space 64;y:word y;", "0/0/4/0 0/0/134/0");
    }

    /** "FIXUP i of a MODULE", the last one and the one behind it. */
    private static void lists() {
        SegmentBench bench = Check.modules("seg c 1;a:word a,a,a;");
        Check.due("three", () -> bench.count(11), 3);
        for (int what = 0; what < 4; what++) {
            int w = what;
            Check.due("the last, " + w, () -> bench.fixup(0, 2, w), w == 2 ? 4 : 0);
            Check.thrown("one more, " + w, () -> bench.fixup(0, 3, w), IndexOutOfBoundsException.class);
            Check.thrown("-1, " + w, () -> bench.fixup(0, -1, w), IndexOutOfBoundsException.class);
        }
    }
}
