/** Promises 7 (run), 12 (register) and 13 (trace): what every code does. */
public final class MachineTest {
    public static void main(String[] args) {
        fuel();
        moves();
        memory();
        arithmetic();
        multiplies();
        divides();
        stack();
        jumps();
        calls();
        undefined();
        otherForms();
        traces();
        Check.end();
    }

    private static final String START = "seg c 1;public main;main:";

    /** ax cx dx bx sp bp si di, and C Z S, after the text has run to its hlt. */
    private static void due(String text, String registers, String flags) {
        SegmentBench bench = Check.loaded(START + text + "hlt;", 32);
        int answer = 3;
        for (int i = 0; i < 5 && answer == 3; i++) {
            answer = bench.run(400);
        }
        Check.same("run " + text, "" + answer, "0");
        Check.same("registers of " + text, Check.registers(bench, 0, 8), registers);
        Check.same("flags of " + text, Check.registers(bench, 13, 16), flags);
    }

    private static void fuel() {
        SegmentBench bench = Check.loaded(START + "inc ax;inc ax;inc ax;hlt;byte 0;", 1);
        for (int wrong : new int[] {0, 401, -1, Integer.MAX_VALUE}) {
            Check.thrown("fuel " + wrong, () -> bench.run(wrong), IllegalArgumentException.class);
        }
        Check.due("two", () -> bench.run(2), 3);
        Check.due("IP", () -> bench.register(12), 2);
        Check.due("done", () -> bench.count(5), 2);
        Check.due("just enough", () -> bench.run(2), 0);
        Check.due("IP behind hlt", () -> bench.register(12), 4);
        Check.due("done with hlt", () -> bench.count(5), 4);
        Check.thrown("halted", () -> bench.run(1), IllegalStateException.class);
        Check.thrown("range first", () -> bench.run(0), IllegalArgumentException.class);
        bench.load(1);
        Check.due("three", () -> bench.run(3), 3);
        Check.due("not halted yet", () -> bench.count(7), 0);
        SegmentBench forever = Check.loaded(START + "jmp main;", 1);
        Check.due("400", () -> forever.run(400), 3);
        Check.due("and 400", () -> forever.run(400), 3);
        Check.due("800", () -> forever.count(5), 800);
    }

    private static void moves() {
        due("mov ax,5;mov cx,ax;mov di,cx;mov bx,65535;", "5 5 0 65535 0 0 0 5", "0 0 0");
        due("mov ax,7;mov es,ax;mov si,es;mov dx,cs;mov bp,ds;", "7 0 32 0 0 32 7 0", "0 0 0");
        due("mov ax,7;mov ds,ax;mov [2],ds;mov cx,[2];mov ss,cx;mov bx,ss;", "7 7 0 7 0 0 0 0", "0 0 0");
    }

    /** Which segment register and which registers every b takes. */
    private static void memory() {
        String set = "mov ax,100;mov ss,ax;mov bx,16;mov bp,32;mov si,4;mov di,8;mov ax,513;";
        String[] operands = {"[bx+si]", "[bx+di]", "[bp+si]", "[bp+di]", "[si]", "[di]", "[bp]", "[bx]", "[200]",
            "[bx+si+1]", "[bp-2]", "[bp+di-300]", "[bx-20]", "[65535]", "[si-5]"};
        int data = 32 * 16;
        int stack = 100 * 16;
        int[] want = {data + 20, data + 24, stack + 36, stack + 40, data + 4, data + 8, stack + 32, data + 16,
            data + 200, data + 21, stack + 30, stack + 40 - 300, data - 4, data - 1, data - 1};
        for (int i = 0; i < want.length; i++) {
            SegmentBench bench = Check.loaded(START + "jmp go;space 60;space 40;go:" + set + "mov " + operands[i]
                    + ",ax;mov cx," + operands[i] + ";hlt;", 32);
            int at = want[i] & 4095;
            Check.due("run " + operands[i], () -> bench.run(400), 0);
            Check.due("low " + operands[i], () -> bench.memory(at), 1);
            Check.due("high " + operands[i], () -> bench.memory((at + 1) & 4095), 2);
            Check.due("read " + operands[i], () -> bench.register(1), 513);
        }
        SegmentBench bench = Check.loaded(START + "mov ax,65535;mov ds,ax;mov [15],772;hlt;", 1);
        bench.run(9);
        Check.due("4095", () -> bench.memory(4095), 4);
        Check.due("0", () -> bench.memory(0), 3);
    }

    private static void arithmetic() {
        due("mov ax,65535;add ax,1;", "0 0 0 0 0 0 0 0", "1 1 0");
        due("mov ax,32767;add ax,1;", "32768 0 0 0 0 0 0 0", "0 0 1");
        due("mov ax,5;mov bx,6;sub ax,bx;", "65535 0 0 6 0 0 0 0", "1 0 1");
        due("mov ax,5;sub ax,5;", "0 0 0 0 0 0 0 0", "0 1 0");
        due("mov ax,5;cmp ax,6;", "5 0 0 0 0 0 0 0", "1 0 1");
        due("mov ax,5;mov bx,5;cmp ax,bx;", "5 0 0 5 0 0 0 0", "0 1 0");
        due("mov ax,5;mov [500],6;cmp [500],ax;mov bx,[500];", "5 0 0 6 0 0 0 0", "0 0 0");
        due("mov ax,5;mov [500],6;cmp [500],7;mov bx,[500];", "5 0 0 6 0 0 0 0", "1 0 1");
        due("mov ax,1;cmp ax,2;mov ax,12;or ax,3;", "15 0 0 0 0 0 0 0", "0 0 0");
        due("mov ax,1;cmp ax,2;mov ax,12;and ax,3;", "0 0 0 0 0 0 0 0", "0 1 0");
        due("mov ax,1;cmp ax,2;mov ax,32769;xor ax,1;", "32768 0 0 0 0 0 0 0", "0 0 1");
        due("mov [500],65535;mov cx,2;add [500],cx;mov ax,[500];", "1 2 0 0 0 0 0 0", "1 0 0");
        due("mov [500],3;or [500],4;sub [500],1;xor [500],1;and [500],5;mov ax,[500];", "5 0 0 0 0 0 0 0", "0 0 0");
        due("mov ax,32769;shl ax;", "2 0 0 0 0 0 0 0", "1 0 0");
        due("mov ax,32769;shr ax;", "16384 0 0 0 0 0 0 0", "1 0 0");
        due("mov ax,1;shr ax;", "0 0 0 0 0 0 0 0", "1 1 0");
        due("mov ax,16384;shl ax;", "32768 0 0 0 0 0 0 0", "0 0 1");
        due("mov [500],5;shl [500];mov ax,[500];", "10 0 0 0 0 0 0 0", "0 0 0");
        due("mov ax,1;neg ax;", "65535 0 0 0 0 0 0 0", "1 0 1");
        due("neg ax;", "0 0 0 0 0 0 0 0", "0 1 0");
        due("mov ax,1;neg ax;inc ax;", "0 0 0 0 0 0 0 0", "1 1 0");
        due("dec cx;", "0 65535 0 0 0 0 0 0", "0 0 1");
        due("mov bp,32767;inc bp;mov di,1;dec di;", "0 0 0 0 0 32768 0 0", "0 1 0");
    }

    private static void multiplies() {
        due("mov ax,65535;mov bx,65535;mul bx;", "1 0 65534 65535 0 0 0 0", "1 0 0");
        due("mov ax,255;mov dx,9;mov bx,257;mul bx;", "65535 0 0 257 0 0 0 0", "0 0 0");
        due("mov ax,1;sub ax,1;mov ax,256;mul ax;", "0 0 1 0 0 0 0 0", "1 1 0");
        due("mov dx,3;mov ax,4;mul dx;", "12 0 0 0 0 0 0 0", "0 0 0");
    }

    private static void divides() {
        due("mov ax,7;mov bx,2;div bx;", "3 0 1 2 0 0 0 0", "0 0 0");
        due("mov dx,1;mov ax,5;mov bx,3;div bx;", "21847 0 0 3 0 0 0 0", "0 0 0");
        due("mov dx,65534;mov ax,65535;mov bx,65535;div bx;", "65535 0 65534 65535 0 0 0 0", "0 0 0");
        due("mov ax,1;cmp ax,2;mov bx,1;div bx;", "1 0 0 1 0 0 0 0", "1 0 1");
        fault("mov ax,9;div bx;", "9 0 0 0 0 0 0 0", 3, 1);
        fault("mov dx,2;mov bx,2;div bx;", "0 0 2 2 0 0 0 0", 6, 2);
        fault("mov dx,65535;mov ax,65535;mov bx,65535;div bx;", "65535 0 65535 65535 0 0 0 0", 9, 3);
        fault("div [500];", "0 0 0 0 0 0 0 0", 0, 0);
    }

    private static void fault(String text, String registers, int ip, int done) {
        SegmentBench bench = Check.loaded(START + text + "hlt;", 32);
        Check.due("run " + text, () -> bench.run(400), 1);
        Check.same("registers of " + text, Check.registers(bench, 0, 8), registers);
        Check.due("IP of " + text, () -> bench.register(12), ip);
        Check.due("done of " + text, () -> bench.count(5), done);
        Check.due("halted of " + text, () -> bench.count(7), 1);
        Check.thrown("run on " + text, () -> bench.run(1), IllegalStateException.class);
    }

    private static void stack() {
        due("mov ax,5;push ax;mov ax,6;push ax;pop cx;pop dx;", "6 6 5 0 0 0 0 0", "0 0 0");
        due("mov sp,100;push sp;pop ax;", "100 0 0 0 100 0 0 0", "0 0 0");
        due("mov sp,100;mov ax,7;push ax;pop sp;", "7 0 0 0 7 0 0 0", "0 0 0");
        due("push cs;pop ax;push ds;pop es;mov bx,es;", "32 0 0 32 0 0 0 0", "0 0 0");
        SegmentBench bench = Check.loaded(START + "mov ax,772;push ax;hlt;", 32);
        bench.run(9);
        Check.due("sp", () -> bench.register(4), 65534);
        Check.due("low", () -> bench.memory(510), 4);
        Check.due("high", () -> bench.memory(511), 3);
        SegmentBench moved = Check.loaded(START + "mov ax,100;push ax;pop ss;push ax;hlt;", 32);
        moved.run(9);
        Check.due("ss", () -> moved.register(10), 100);
        Check.due("on the new stack", () -> moved.memory(1598), 100);
    }

    private static void jumps() {
        due("jmp x;inc ax;x:inc bx;", "0 0 0 1 0 0 0 0", "0 0 0");
        due("mov cx,3;x:inc ax;loop x;", "3 0 0 0 0 0 0 0", "0 0 0");
        due(";x:inc ax;cmp ax,300;jnz x;", "300 0 0 0 0 0 0 0", "0 1 0");
        String[] words = {"jc", "jnc", "jz", "jnz", "js", "jns"};
        String[] sets = {"cmp ax,1;", "cmp ax,0;", "mov ax,2;cmp ax,1;"};
        int[][] taken = {{1, 0, 0}, {0, 1, 1}, {0, 1, 0}, {1, 0, 1}, {1, 0, 0}, {0, 1, 1}};
        for (int w = 0; w < words.length; w++) {
            for (int s = 0; s < sets.length; s++) {
                String text = sets[s] + words[w] + " x;mov bx,1;x:";
                SegmentBench bench = Check.loaded(START + text + "hlt;", 3);
                bench.run(9);
                Check.due(text, () -> bench.register(3), 1 - taken[w][s]);
            }
        }
        SegmentBench round = Check.loaded(START + "dec cx;x:loop x;hlt;", 3);
        Check.due("loop below 0", () -> round.run(3), 3);
        Check.due("cx", () -> round.register(1), 65533);
        SegmentBench near = Check.loaded(START + "jmp x;space 64;space 64;y:hlt;x:inc ax;jmp y;", 3);
        Check.due("near", () -> near.run(9), 0);
        Check.due("IP", () -> near.register(12), 132);
    }

    private static void calls() {
        due("mov sp,400;call f;call f;hlt;f:inc ax;ret;", "2 0 0 0 400 0 0 0", "0 0 0");
        SegmentBench bench = Check.loaded("seg c 1;public main;main:callf g;inc bx;hlt;seg d 1;ret;g:mov ax,cs;retf;", 4);
        Check.due("far", () -> bench.run(1), 3);
        Check.same("cs IP", bench.register(9) + " " + bench.register(12), "5 1");
        Check.due("sp", () -> bench.register(4), 65532);
        Check.due("IP was pushed last", () -> bench.memory(60), 5);
        Check.due("cs first", () -> bench.memory(62), 4);
        Check.due("back", () -> bench.run(9), 0);
        Check.same("cs IP sp", bench.register(9) + " " + bench.register(12) + " " + bench.register(4), "4 7 0");
        Check.due("ax", () -> bench.register(0), 5);
        Check.due("bx", () -> bench.register(3), 1);
    }

    private static void undefined() {
        boolean[] known = new boolean[256];
        int[] codes = {139, 137, 199, 142, 140, 129, 209, 247, 235, 233, 114, 115, 116, 117, 120, 121, 226, 232, 154,
            195, 203, 205, 244, 6, 14, 22, 30, 7, 23, 31, 1, 3, 9, 11, 33, 35, 41, 43, 49, 51, 57, 59};
        for (int code : codes) {
            known[code] = true;
        }
        for (int code = 64; code < 96; code++) {
            known[code] = true;
        }
        for (int code = 184; code < 192; code++) {
            known[code] = true;
        }
        for (int code = 0; code < 256; code++) {
            // 224 has k 4 where one is asked for, so that the ones that need another k are tried below.
            int k = code == 129 || code == 140 || code == 142 || code == 199 ? 192 : 224;
            ends("byte " + code + "," + k + ",0,0;", !known[code]);
        }
        int[][] ks = {{129, 0, 1, 4, 5, 6, 7}, {199, 0}, {209, 4, 5}, {247, 3, 4, 6}, {140, 0, 1, 2, 3}, {142, 0, 2, 3}};
        for (int[] row : ks) {
            for (int k = 0; k < 8; k++) {
                boolean isKnown = false;
                for (int i = 1; i < row.length; i++) {
                    isKnown = isKnown || row[i] == k;
                }
                ends("mov bx,1;mov ax,1;byte " + row[0] + "," + (192 + 8 * k + 3) + ",9,9;", !isKnown);
            }
        }
        SegmentBench bench = Check.loaded(START + "inc ax;byte 199,142,5,0,7,0;", 6);
        Check.due("undefined", () -> bench.run(400), 2);
        Check.due("IP of its first byte", () -> bench.register(12), 1);
        Check.due("it does not count", () -> bench.count(5), 1);
        Check.due("halted", () -> bench.count(7), 1);
        Check.thrown("run", () -> bench.run(1), IllegalStateException.class);
    }

    /** Whether the last statement of the text is undefined. */
    private static void ends(String text, boolean isUndefined) {
        SegmentBench bench = Check.loaded(START + text, 6);
        int before = text.split(";").length - 1;
        for (int i = 0; i < before; i++) {
            bench.run(1);
        }
        String answer = "" + bench.run(1);
        Check.same(text, "" + answer.equals("2"), "" + isUndefined);
    }

    /** Bytes that the assembler does not make: a 3 where it has memory, long displacements. */
    private static void otherForms() {
        due("mov bx,9;byte 137,216;", "9 0 0 9 0 0 0 0", "0 0 0");
        due("byte 199,193,44,1;", "0 300 0 0 0 0 0 0", "0 0 0");
        due("mov ax,4;mov cx,3;byte 41,200;", "1 3 0 0 0 0 0 0", "0 0 0");
        due("byte 140,203;", "0 0 0 32 0 0 0 0", "0 0 0");
        due("mov bx,500;mov [bx],77;byte 139,135,0,0;", "77 0 0 500 0 0 0 0", "0 0 0");
        due("mov [500],77;mov bx,501;byte 139,71,255;", "77 0 0 501 0 0 0 0", "0 0 0");
        due("byte 233,1,0,0,64;", "1 0 0 0 0 0 0 0", "0 0 0");
    }

    private static void traces() {
        SegmentBench bench = Check.loaded(START + "mov ax,65535;int 255;x:inc ax;int 7;jmp x;", 6);
        bench.run(2);
        Check.due("first", () -> bench.trace(0), 65536 * 255 + 65535);
        Check.thrown("second", () -> bench.trace(1), IndexOutOfBoundsException.class);
        bench.run(400);
        Check.due("second", () -> bench.trace(1), 65536 * 7);
        Check.due("30th", () -> bench.trace(29), 65536 * 7 + 28);
        Check.thrown("31st", () -> bench.trace(30), IndexOutOfBoundsException.class);
        Check.thrown("-1", () -> bench.trace(-1), IndexOutOfBoundsException.class);
        Check.due("all ints", () -> bench.count(6), 1 + 133);
        bench.load(6);
        Check.thrown("none", () -> bench.trace(0), IndexOutOfBoundsException.class);
    }
}
