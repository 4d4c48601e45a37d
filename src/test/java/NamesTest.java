/** Promise 3 (assemble): segments, labels, externs, public names: kind 2. */
public final class NamesTest {
    private static final String SEG = "seg c 1;";

    public static void main(String[] args) {
        declaredTwice();
        used();
        firstOne();
        behindWrongSeg();
        tooMany();
        rightOnes();
        Check.end();
    }

    private static void wrong(String text, int place) {
        Check.fails(text, java.util.NoSuchElementException.class, 2, place);
    }

    private static void declaredTwice() {
        wrong(SEG + "x:;x:;", 11);
        wrong(SEG + "c:;", 8);
        wrong(SEG + "seg c 2;", 12);
        wrong(SEG + "extern c;", 15);
        wrong(SEG + "x:;seg x 1;", 15);
        wrong(SEG + "x:;extern x;", 18);
        wrong("extern e;extern e;", 16);
        wrong("extern e;seg e 1;", 13);
        wrong("extern e;seg c 1;e:;", 17);
        wrong("seg c 1;seg d 2;seg c 1;seg d 4;", 28);
    }

    private static void used() {
        wrong("public x;", 7);
        wrong("public c;seg c 1;", 7);
        wrong("extern e;public e;", 16);
        wrong(SEG + "word x;", 13);
        wrong(SEG + "word @x;", 14);
        wrong(SEG + "mov ax,x;", 15);
        wrong(SEG + "mov [x],1;", 13);
        wrong(SEG + "neg [bx+x];", 16);
        wrong(SEG + "jmp x;", 12);
        wrong(SEG + "jmp c;", 12);
        wrong(SEG + "call c;", 13);
        wrong(SEG + "callf c;", 14);
        wrong(SEG + "callf x;", 14);
        wrong(SEG + "jz c;", 11);
        wrong(SEG + "extern x;loop x;", 22);
        wrong(SEG + "extern x;jc x;", 20);
        wrong(SEG + "x:;seg d 1;jmp x;", 23);
        wrong(SEG + "x:;seg d 1;call x;", 24);
        wrong(SEG + "jns x;seg d 1;x:;", 12);
    }

    private static void firstOne() {
        wrong(SEG + "word a;word b;", 13);
        wrong(SEG + "x:;x:;word a;", 11);
        wrong(SEG + "word a;x:;x:;", 13);
        wrong("public p;seg c 1;x:;x:;", 7);
        wrong(SEG + "mov [a],b;", 13);
        wrong(SEG + "b:;mov [b],a;", 19);
        wrong(SEG + "jmp x;seg d 1;x:;seg c 1;x:;", 12);
        wrong("public x;seg x 1;x:;", 7);
    }

    private static void behindWrongSeg() {
        wrong(SEG + "jmp x;seg c 2;x:;", 18);
        wrong(SEG + "jmp x;seg d 1;seg d 2;x:;", 12);
        wrong("extern e;seg c 1;jmp x;seg e 1;x:;", 27);
    }

    /** 24 names and no more, wherever they stand. */
    private static void tooMany() {
        StringBuilder text = new StringBuilder(SEG);
        for (char a = 'a'; a < 'a' + 24; a++) {
            if (a != 'c') {
                text.append(a).append(":;");
            }
        }
        String full = text.toString();
        SegmentBench bench = Check.type(new SegmentBench(), full + "word x,a,b;");
        Check.due("24 names", () -> bench.assemble(0), 6);
        int end = full.length();
        wrong(full + "y:;", end);
        wrong(full + "extern y;", end + 7);
        wrong(full + "seg y 1;", end + 4);
        wrong(full + "word y;y:;", end + 5);
        wrong(full + "a:;y:;", end);
        wrong(full + "y:;z:;word none;", end);
        wrong(full + "neg [y];", end + 5);
        wrong("public y;" + full + "y:;", 9 + end - 3);
        wrong(SEG + "jmp x;" + full.substring(8).replace("x:;", "") + "seg y 1;x:;", 6 + end - 3 + 4);
    }

    private static void rightOnes() {
        due("extern e;public x;public x;seg c 1;x:jmp x;jmp y;y:;call e;jmp e;callf e;callf x;", 20);
        due("seg c 1;x:;seg d 1;callf x;word x,@x,c,@d;", 13);
        due("seg c 1;jz y;seg d 2;seg c 1;y:;jnz y;loop y;", 6);
        due("seg c 1;word e,@e;neg [e];extern e;", 8);
        due("seg main 1;neg [main+bx];", 4);
    }

    private static void due(String text, int bytes) {
        SegmentBench bench = Check.type(new SegmentBench(), text);
        Check.due("assemble " + text, () -> bench.assemble(0), bytes);
    }
}
