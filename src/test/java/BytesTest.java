/** Promises 3 (assemble), 8 (code) and 9 (fixup): the bytes of every statement, and fixups. */
public final class BytesTest {
    public static void main(String[] args) {
        data();
        moves();
        arithmetic();
        registers();
        displacements();
        flow();
        fixups();
        segments();
        ranges();
        Check.end();
    }

    private static void due(String text, String bytes) {
        SegmentBench bench = Check.modules("seg c 1;" + text);
        Check.same(text, Check.bytes(bench, 0, 0), bytes);
    }

    private static void data() {
        due("word 1,258,65535;", "1 0 2 1 255 255");
        due("byte 0,255;", "0 255");
        due("space 3;ret;", "0 0 0 195");
        due("ret;x:word x;", "195 1 0");
        due("ret;word @x;x:;", "195 0 0");
        due("word c;", "0 0");
    }

    private static void moves() {
        due("mov ax,bx;", "139 195");
        due("mov di,sp;", "139 252");
        due("mov cx,[bx+si];", "139 8");
        due("mov [bp+di],dx;", "137 19");
        due("mov si,4660;", "190 52 18");
        due("mov [bx],4660;", "199 7 52 18");
        due("mov [bx+2],3;", "199 71 2 3 0");
        due("mov es,ax;mov ss,[di];mov ds,bp;", "142 192 142 21 142 221");
        due("mov [si],cs;mov ax,cs;mov di,es;", "140 12 140 200 140 199");
        due("mov bx,ss;mov bp,ds;", "140 211 140 221");
    }

    private static void arithmetic() {
        due("add ax,bx;or cx,dx;and si,di;", "3 195 11 202 35 247");
        due("sub sp,bp;xor ax,ax;cmp bx,cx;", "43 229 51 192 59 217");
        due("add ax,[bx];cmp [si],dx;sub [bx+di],sp;", "3 7 57 20 41 33");
        due("or [bp+si],ax;and [di],cx;xor [bx],bx;add [si],si;", "9 2 33 13 49 31 1 52");
        due("add ax,5;or bx,256;and cx,65535;", "129 192 5 0 129 203 0 1 129 225 255 255");
        due("sub dx,1;xor si,2;cmp di,3;", "129 234 1 0 129 246 2 0 129 255 3 0");
        due("cmp [bx],7;add [5],6;", "129 63 7 0 129 6 5 0 6 0");
    }

    private static void registers() {
        due("inc ax;inc di;dec cx;dec bp;", "64 71 73 77");
        due("push ax;push sp;pop bx;pop si;", "80 84 91 94");
        due("push es;push cs;push ss;push ds;pop es;pop ss;pop ds;", "6 14 22 30 7 23 31");
        due("shl ax;shr bx;neg cx;mul dx;div si;", "209 224 209 235 247 217 247 226 247 246");
        due("shl [bx];shr [si];neg [di];mul [bp];div [1];", "209 39 209 44 247 29 247 102 0 247 54 1 0");
    }

    private static void displacements() {
        due("neg [bx+si];neg [di+bx];neg [bp+si];neg [di+bp];", "247 24 247 25 247 26 247 27");
        due("neg [si];neg [di];neg [bp];neg [bx];", "247 28 247 29 247 94 0 247 31");
        due("neg [0];neg [5+3-1];", "247 30 0 0 247 30 7 0");
        due("neg [1-2];", "247 30 255 255");
        due("neg [bx+127];neg [bx+128];", "247 95 127 247 159 128 0");
        due("neg [bx-128];neg [bx-129];", "247 95 128 247 159 127 255");
        due("neg [65535+si];neg [si+65408];neg [si+65407];", "247 92 255 247 92 128 247 156 127 255");
        due("neg [1+bx-1];neg [65535+1+di];", "247 31 247 29");
        due("neg [bp+1-1];neg [bp+5];neg [bp+256];", "247 94 0 247 94 5 247 158 0 1");
        due("neg [bp+si+0];", "247 26");
        due("ret;x:neg [x];neg [x+bx];", "195 247 30 1 0 247 159 1 0");
        due("ret;x:neg [bp+x-2+si];neg [x-1];", "195 247 154 255 255 247 30 0 0");
        due("neg [c+300];", "247 30 44 1");
        due("ret;x:mov [x+1],x;", "195 199 6 2 0 1 0");
    }

    private static void flow() {
        due("x:jmp x;jmp y;y:;", "235 254 235 0");
        due("x:jc x;jnc x;jz x;jnz x;js x;jns x;loop x;",
                "114 254 115 252 116 250 117 248 120 246 121 244 226 242");
        due("ret;call x;x:call x;", "195 232 0 0 232 253 255");
        due("ret;x:callf x;", "195 154 1 0 0 0");
        due("ret;retf;int 33;hlt;", "195 203 205 33 244");
        due("extern e;jmp e;call e;callf e;", "233 0 0 232 0 0 154 0 0 0 0");
    }

    private static void fixups() {
        fixed("extern e;seg c 1;ret;l:word 5,l,@l,c,@c,e,@e;",
                "0/0/3/0 1/0/5/0 0/0/7/0 1/0/9/0 0/0/11/-1 1/0/13/-1");
        fixed("extern e;seg c 1;jmp e;call e;callf e;", "2/0/1/-1 2/0/4/-1 0/0/7/-1 1/0/9/-1");
        fixed("seg c 1;x:jmp x;call x;jz x;", "");
        fixed("seg c 1;seg d 1;ret;mov [x],@y;seg c 1;x:;y:word d;", "0/1/3/0 1/1/5/0 0/0/0/1");
        fixed("seg c 1;a:seg d 1;mov ax,[bx+a];add [d],a;cmp bx,@a;", "0/1/2/0 0/1/6/1 0/1/8/0 1/1/12/0");
        fixed("seg c 1;word c;seg d 1;word c;seg c 1;word d;", "0/0/0/0 0/1/0/0 0/0/2/1");
    }

    private static void fixed(String text, String fixups) {
        Check.same(text, Check.fixups(Check.modules(null, null, text), 2), fixups);
    }

    /** Segments that go on, and labels before a seg. */
    private static void segments() {
        SegmentBench bench = Check.modules("seg c 1;byte 1;x:seg d 2;byte 2;y:seg c 1;byte 3;word x,y;z:;"
                + "seg d 2;word z;");
        Check.due("segments", () -> bench.count(8), 2);
        Check.same("c", Check.bytes(bench, 0, 0), "1 3 1 0 1 0");
        Check.same("d", Check.bytes(bench, 0, 1), "2 6 0");
        SegmentBench empty = Check.modules("seg c 1;seg d 1;");
        Check.due("empty ones", () -> empty.count(8), 2);
        Check.thrown("no byte", () -> empty.code(0, 1, 0), IndexOutOfBoundsException.class);
    }

    private static void ranges() {
        SegmentBench bench = Check.modules("seg c 1;byte 9,8;word c;");
        Check.due("code", () -> bench.code(0, 0, 1), 8);
        int[][] none = {{-1, 0, 0}, {3, 0, 0}, {1, 0, 0}, {0, -1, 0}, {0, 1, 0}, {0, 0, -1}, {0, 0, 4},
            {Integer.MAX_VALUE, 0, 0}, {0, Integer.MIN_VALUE, 0}, {0, 0, Integer.MAX_VALUE}};
        for (int[] at : none) {
            Check.thrown("code " + at[0] + " " + at[1] + " " + at[2], () -> bench.code(at[0], at[1], at[2]),
                    IndexOutOfBoundsException.class);
        }
        for (int what : new int[] {-1, 4, Integer.MAX_VALUE}) {
            Check.thrown("fixup what " + what, () -> bench.fixup(0, 0, what), IllegalArgumentException.class);
            Check.thrown("what comes first", () -> bench.fixup(0, 9, what), IllegalArgumentException.class);
        }
        int[][] lacking = {{0, 1}, {0, -1}, {1, 0}, {2, 0}, {3, 0}, {-1, 0}, {0, Integer.MAX_VALUE}};
        for (int[] at : lacking) {
            Check.thrown("fixup " + at[0] + " " + at[1], () -> bench.fixup(at[0], at[1], 3),
                    IndexOutOfBoundsException.class);
        }
    }
}
