/** Terms, names: what is wrong with one and what is not yet, sentence by sentence: kind 2. */
public final class NameEdgesTest {
    private static final String SEG = "seg c 1;";
    private static final int MOST = 24;

    public static void main(String[] args) {
        segmentGoesOn();
        madeTwice();
        behindPublic();
        inValues();
        inBrackets();
        inJumps();
        the25th();
        whatIsNoName();
        firstInTheText();
        behindWrongSeg();
        modulesApart();
        Check.end();
    }

    /** "opened, or continued if it is one already (then with the same ALIGN)" */
    private static void segmentGoesOn() {
        int[] aligns = {1, 2, 4, 8, 16};
        for (int first : aligns) {
            for (int second : aligns) {
                String text = "seg c " + first + ";ret;seg d 1;seg c " + second + ";ret;";
                if (first == second) {
                    Check.assembles(text, 2);
                } else {
                    Check.wrong(text, ("seg c " + first + ";ret;seg d 1;seg ").length());
                }
            }
        }
        Check.assembles("seg c 2;seg c 2;seg c 2;", 0);
        Check.assembles("seg c 04;seg c 4;", 0);
        Check.wrong("seg c 1;seg c 1;seg c 2;seg c 1;", 20);
    }

    /** "one that was a SEGMENT .., LABEL or EXTERN before and is made one here" */
    private static void madeTwice() {
        String[] makes = {"seg q 1;", "q:;", "extern q;"};
        int[] nameAt = {4, 0, 7};
        for (int a = 0; a < 3; a++) {
            Check.assembles(SEG + makes[a], 0);
            for (int b = 0; b < 3; b++) {
                String text = SEG + makes[a] + ";ret;" + makes[b];
                if (a == 0 && b == 0) {
                    Check.assembles(text, 1);
                } else {
                    Check.wrong(text, (SEG + makes[a] + ";ret;").length() + nameAt[b]);
                }
            }
        }
        Check.wrong(SEG + "q:;seg d 1;q:;", 19);
        Check.wrong(SEG + "q:ret;q:ret;q:ret;", 14);
        Check.wrong(SEG + "c:seg d 1;", 8);
        Check.wrong("seg c 1;extern e;seg e 1;", 21);
    }

    /** "one behind public that is no LABEL (anywhere in THE TEXT)" */
    private static void behindPublic() {
        Check.assembles("public q;seg c 1;q:;", 0);
        Check.assembles("seg c 1;q:;public q;", 0);
        Check.assembles("seg c 1;public q;seg d 1;q:;", 0);
        Check.assembles("public q;public q;seg c 1;q:;public q;", 0);
        Check.wrong("public q;", 7);
        Check.wrong("public q;seg q 1;", 7);
        Check.wrong("seg q 1;public q;", 15);
        Check.wrong("extern q;public q;", 16);
        Check.wrong("public q;extern q;", 7);
        Check.wrong("seg c 1;word 1;public q;", 22);
        Check.wrong("public q;public r;seg c 1;q:;", 16);
    }

    /** "one in a VALUE .. that is none of the three" */
    private static void inValues() {
        String[] uses = {"word ", "word @", "word 1,", "word 1,@", "mov ax,", "mov ax,@", "mov [1],", "mov [1],@",
            "add bx,", "cmp [si],@", "sub [9],"};
        for (String use : uses) {
            Check.wrong(SEG + use + "q;", 8 + use.length());
            Check.isRight(SEG + "q:" + use + "q;");
            Check.isRight(SEG + use + "q;seg d 1;q:;");
            Check.isRight(SEG + use + "c;");
            Check.isRight(SEG + use + "q;seg q 1;");
            Check.isRight(SEG + use + "q;extern q;");
            Check.isRight("extern q;" + SEG + use + "q;");
            Check.wrong(SEG + "public q;" + use + "q;", 15);
        }
    }

    /** "one in a .. MEMORY that is none of the three" */
    private static void inBrackets() {
        String[] before = {"neg [", "mov ax,[", "mov [bx+", "add [1+", "mov es,[si+", "cmp ax,[bp-2+"};
        String[] after = {"];", "+si];", "],ax;", "],5;", "];", "];"};
        for (int i = 0; i < before.length; i++) {
            String use = before[i] + "q" + after[i];
            Check.wrong(SEG + use, 8 + before[i].length());
            Check.isRight(SEG + "q:" + use);
            Check.isRight(SEG + use + "seg d 1;q:;");
            Check.isRight(SEG + use + "seg q 2;");
            Check.isRight(SEG + use + "extern q;");
        }
        Check.wrong(SEG + "mov [q],r;", 13);
        Check.wrong(SEG + "q:mov [q],r;", 18);
        Check.wrong(SEG + "r:mov [q],r;", 15);
    }

    /** "one of a jump, loop or call that is no LABEL in the same SEGMENT, and, for jmp, call, callf, no EXTERN .." */
    private static void inJumps() {
        for (String word : "jc jnc jz jnz js jns loop".split(" ")) {
            jumps(word, "ynnnn");
        }
        jumps("jmp", "ynynn");
        jumps("call", "ynynn");
        jumps("callf", "yyynn");
    }

    /** Whether the word may have a label here, one in another segment, an extern, a segment, nothing. */
    private static void jumps(String word, String allowed) {
        String use = word + " q;";
        int at = word.length() + 1;
        jump(allowed.charAt(0), SEG + "q:;" + use, 11 + at);
        jump(allowed.charAt(0), SEG + use + "q:;", 8 + at);
        jump(allowed.charAt(0), SEG + use + "seg d 1;seg c 1;q:;", 8 + at);
        jump(allowed.charAt(1), SEG + "q:;seg d 1;" + use, 19 + at);
        jump(allowed.charAt(1), SEG + use + "seg d 1;q:;", 8 + at);
        jump(allowed.charAt(2), "extern q;" + SEG + use, 17 + at);
        jump(allowed.charAt(2), SEG + use + "extern q;", 8 + at);
        jump(allowed.charAt(3), SEG + word + " c;", 8 + at);
        jump(allowed.charAt(3), SEG + use + "seg q 1;", 8 + at);
        jump(allowed.charAt(4), SEG + use, 8 + at);
        jump(allowed.charAt(4), SEG + "seg qq 1;" + use, 17 + at);
    }

    private static void jump(char allowed, String text, int at) {
        if (allowed == 'y') {
            Check.isRight(text);
        } else {
            Check.wrong(text, at);
        }
    }

    /** c and as many labels that there are n names in all. */
    private static String names(int n) {
        StringBuilder text = new StringBuilder(SEG);
        for (int i = 1; i < n; i++) {
            text.append('n').append(i).append(":;");
        }
        return text.toString();
    }

    /** "the 25th that is different from all before, whatever it is" */
    private static void the25th() {
        String less = names(MOST - 1);
        String full = names(MOST);
        String[] before = {"", "seg ", "extern ", "word ", "word @", "neg [bx+", "mov ax,", "jmp ", "loop ", "callf ",
            "public "};
        String[] after = {":;", " 1;", ";", ";q:;", ";q:;", "];q:;", ";q:;", ";q:;", ";q:;", ";q:;", ";q:;"};
        for (int i = 0; i < before.length; i++) {
            Check.isRight(less + before[i] + "q" + after[i]);
            Check.wrong(full + before[i] + "q" + after[i], full.length() + before[i].length());
        }
        Check.isRight(full + "word n1,n23,c,@c;jmp n9;public n2;seg c 1;");
        Check.wrong(full + "q:;r:;s:;", full.length());
        Check.wrong(full + "word n1,nn,q;", full.length() + 8);
        Check.wrong(full + "n1:;q:;", full.length());
        Check.wrong(full + "q:;n1:;", full.length());
        Check.wrong("public q;" + full, 7);
        Check.wrong("public q;" + full + "q:;", 9 + full.length() - 5);
        Check.wrong(names(MOST + 1), names(MOST).length());
        Check.wrong(names(60), names(MOST).length());
    }

    /** Registers, words of the table and numbers are no names and do not count. */
    private static void whatIsNoName() {
        Check.isRight(names(MOST) + "mov ax,bx;push es;add cx,[si+bp];ret;retf;hlt;int 3;xor dx,77;space 5;byte 6;");
    }

    /** "WRONG (KIND 2) at a NAME, the first one in THE TEXT" */
    private static void firstInTheText() {
        String[] wrongs = {"word q1;", "jmp q2;", "public q3;", "neg [q4];", "c:;", "extern c;", "seg c 2;", "loop c;"};
        int[] at = {5, 4, 7, 5, 0, 7, 4, 5};
        for (int a = 0; a < wrongs.length; a++) {
            for (int b = 0; b < wrongs.length; b++) {
                Check.wrong(SEG + wrongs[a] + wrongs[b], 8 + at[a]);
                Check.wrong(SEG + "ret;" + wrongs[a] + ";ret;" + wrongs[b], 12 + at[a]);
            }
        }
    }

    /** "What stands behind a seg that is WRONG is in the SEGMENT before" */
    private static void behindWrongSeg() {
        Check.wrong(SEG + "jmp q;seg c 2;q:;", 18);
        Check.wrong("seg d 1;" + SEG + "jmp q;seg d 2;q:;", 26);
        Check.wrong("seg d 1;" + SEG + "jmp q;seg d 1;q:;", 20);
        Check.wrong("extern e;" + SEG + "jz q;seg e 1;q:;", 26);
        Check.wrong(SEG + "l:call q;seg l 1;q:;", 21);
        Check.wrong(SEG + "jmp q;seg d 1;seg c 2;q:;", 12);
        String full = names(MOST - 1);
        Check.wrong(full + "jmp q;seg more 1;q:;", full.length() + 10);
        Check.wrong(names(MOST - 2) + "jmp q;seg more 1;q:;", names(MOST - 2).length() + 4);
    }

    /** A name of one module is nothing in another, nor in the next text. */
    private static void modulesApart() {
        SegmentBench bench = Check.modules("extern e;seg c 1;x:word e;", "seg x 2;c:;e:word c;", "extern c;seg e 4;x:;");
        Check.due("kind", () -> bench.count(1), -1);
        Check.type(bench, "seg d 1;word x;");
        Check.thrown("x is gone", () -> bench.assemble(0), java.util.NoSuchElementException.class);
        Check.failure("x is gone", bench, 2, 13);
        Check.type(bench, "seg c 16;e:;");
        Check.due("all new", () -> bench.assemble(0), 0);
        Check.type(bench, names(MOST + 1));
        Check.thrown("too many", () -> bench.assemble(0), java.util.NoSuchElementException.class);
        Check.failure("too many", bench, 2, names(MOST).length());
        Check.type(bench, names(MOST));
        Check.due("none of those counts", () -> bench.assemble(0), 0);
    }
}
