/** Promise 3 (assemble): the text, its tokens and its grammar: kind 1. */
public final class SyntaxTest {
    private static final String SEG = "seg c 1;";

    public static void main(String[] args) {
        tokens();
        beforeTheFirstSeg();
        statements();
        operands();
        brackets();
        endings();
        order();
        rightTexts();
        Check.end();
    }

    /** Behind a seg, the text stops at place (counted behind the seg). */
    private static void stops(String text, int place) {
        whole(SEG + text, SEG.length() + place);
    }

    private static void whole(String text, int place) {
        Check.fails(text, UnsupportedOperationException.class, 1, place);
    }

    private static void tokens() {
        stops("word 65536;", 5);
        stops("word 99999999999999999999;", 5);
        stops("word 4294967296;", 5);
        stops("word 5a;", 6);
        stops("word 5 5;", 7);
        stops("sevenab:;", 0);
        stops("word sevenab;", 5);
        stops("public ab12345;", 7);
        stops("X:;", 0);
        stops("aX:;", 1);
        stops("word #;", 5);
        stops("word 1.;", 6);
        stops("byte 1,2 # garbage 99999999", 9);
        stops("word -1;", 5);
        stops("word +1;", 5);
        stops("m ov ax,1;", 2);
    }

    private static void beforeTheFirstSeg() {
        whole("x:;", 0);
        whole("x", 0);
        whole("x:seg c 1;", 0);
        whole("hlt;", 0);
        whole(" ; word 1;", 3);
        whole("space 1;", 0);
        whole("extern e;public p;jmp e;", 18);
        whole("extern e;e:;", 9);
        whole("ax;", 0);
        whole("5;", 0);
        whole("seg;x:;", 3);
    }

    private static void statements() {
        whole("seg c 3;", 6);
        whole("seg c 0;", 6);
        whole("seg c 32;", 6);
        whole("seg c x;", 6);
        whole("seg c;", 5);
        whole("seg ax 1;", 4);
        whole("seg mov 1;", 4);
        whole("seg word 1;", 4);
        whole("seg seg 1;", 4);
        whole("seg c 1,2;", 7);
        whole("public 5;", 7);
        whole("public a,b;", 8);
        whole("extern hlt;", 7);
        whole("extern es;", 7);
        stops("x;", 1);
        stops("x y:;", 2);
        stops("x:y:;", 2);
        stops("x::;", 2);
        stops("x:,;", 2);
        stops("word;", 4);
        stops("word 1,;", 7);
        stops("word ax;", 5);
        stops("word [1];", 5);
        stops("word @5;", 6);
        stops("word @@x;", 6);
        stops("byte 256;", 5);
        stops("byte x;", 5);
        stops("byte 1,300;", 7);
        stops("space 65;", 6);
        stops("space x;", 6);
        stops("space 1,2;", 7);
        stops("ret 1;", 4);
        stops("hlt ax;", 4);
        stops("int 256;", 4);
        stops("int x;", 4);
        stops("jmp 5;", 4);
        stops("jmp [bx];", 4);
        stops("jmp ax;", 4);
        stops("loop @x;", 5);
        stops("callf 1;", 6);
    }

    private static void operands() {
        stops("mov cs,ax;", 4);
        stops("mov 5,ax;", 4);
        stops("mov x,ax;", 4);
        stops("mov ax;", 6);
        stops("mov ax bx;", 7);
        stops("mov ax,;", 7);
        stops("mov [bx],[si];", 9);
        stops("mov ds,5;", 7);
        stops("mov ds,x;", 7);
        stops("mov ds,@x;", 7);
        stops("mov ds,es;", 7);
        stops("mov ax,bx,cx;", 9);
        stops("mov ax,@;", 8);
        stops("mov ax,hlt;", 7);
        stops("add ds,ax;", 4);
        stops("add ax,ds;", 7);
        stops("cmp [1],[2];", 8);
        stops("cmp [1],es;", 8);
        stops("xor 1,ax;", 4);
        stops("inc [bx];", 4);
        stops("inc 5;", 4);
        stops("dec ds;", 4);
        stops("push [bx];", 5);
        stops("push 5;", 5);
        stops("pop cs;", 4);
        stops("pop x;", 4);
        stops("shl ax,1;", 6);
        stops("shr 5;", 4);
        stops("neg ds;", 4);
        stops("mul x;", 4);
        stops("div @x;", 4);
    }

    private static void brackets() {
        stops("neg [];", 5);
        stops("neg [-1];", 5);
        stops("neg [+1];", 5);
        stops("neg [ax];", 5);
        stops("neg [sp];", 5);
        stops("neg [ds];", 5);
        stops("neg [@x];", 5);
        stops("neg [bx+bp];", 8);
        stops("neg [bx+bx];", 8);
        stops("neg [si+di];", 8);
        stops("neg [di+1+di];", 10);
        stops("neg [a+b];", 7);
        stops("neg [a+a];", 7);
        stops("neg [c+c];", 7);
        stops("neg [bx-si];", 8);
        stops("neg [bx-x];", 8);
        stops("neg [bx+-1];", 8);
        stops("neg [bx--1];", 8);
        stops("neg [bx si];", 8);
        stops("neg [bx,si];", 7);
        stops("neg [bx+];", 8);
        stops("neg [bx;", 7);
        stops("neg [[bx]];", 5);
        stops("neg [bx]];", 8);
    }

    private static void endings() {
        whole("seg c 1", 7);
        whole("seg c 1   ", 10);
        whole("seg c", 5);
        whole("seg", 3);
        stops("x", 1);
        stops("x:", 2);
        stops("mov", 3);
        stops("mov ax,", 7);
        stops("mov ax,[", 8);
        stops("mov ax,[bx", 10);
        stops("mov ax,[bx+ ", 12);
        stops("word @", 6);
        stops("hlt", 3);
        stops(Check.times("nop1:;", 3) + "inc", 21);
    }

    /** Syntax comes before all else that may be wrong with a text. */
    private static void order() {
        stops("jmp none;x:;x:;inc;", 18);
        stops("space 64;" + Check.times("space 64;", 8) + "#", 81);
        stops("jz x;space 64;space 64;x:;seg d 5;", 32);
        SegmentBench bench = Check.modules("seg c 1;byte 7;");
        Check.type(bench, "seg c 1;word");
        Check.thrown("missing", () -> bench.assemble(0), UnsupportedOperationException.class);
        Check.same("the module stays", Check.bytes(bench, 0, 0), "7");
        Check.failure("missing", bench, 1, 12);
        Check.type(bench, ";").assemble(0);
        Check.failure("one that answers", bench, -1, -1);
    }

    private static void rightTexts() {
        due("", 0);
        due("   ", 0);
        due(";;; ;", 0);
        due("seg c 16;;x:;;", 0);
        due("  seg   c  16 ; x : ret ; y:hlt;", 2);
        due("seg sixsix 8;a12345:ret;", 1);
        due("seg c 00001;word 0000000065535;", 2);
        due("seg c 1;mov[bx],ax;or[1],1;", 8);
        due("seg c 1;space 0;space 64;", 64);
        due("seg c 1;byte 0,255;int 255;", 4);
        due("seg c 1;a:seg d 1;b:public a;public b;c1:extern q;", 0);
    }

    private static void due(String text, int bytes) {
        SegmentBench bench = Check.type(new SegmentBench(), text);
        Check.due("assemble " + text, () -> bench.assemble(0), bytes);
        Check.failure("after " + text, bench, -1, -1);
    }
}
