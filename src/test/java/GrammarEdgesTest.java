/** Terms, the grammar: what may stand and what may not, sentence by sentence: kind 1. */
public final class GrammarEdgesTest {
    private static final String SEG = "seg c 1;";
    private static final String X = "seg c 1;x:;";
    private static final String[] OPERANDS = {"dx", "ss", "cs", "[bx+1]", "7", "x", "@x"};
    private static final String WORDS = "mov add or and sub xor cmp inc dec push pop shl shr neg mul div jmp jc jnc jz "
            + "jnz js jns loop call callf ret retf int hlt word byte space";
    /** Every statement, its tokens parted by single blanks. */
    private static final String[] STATEMENTS = {"seg d 16 ;", "public x ;", "extern e ;", "word 1 , x , @ x ;",
        "byte 1 , 2 ;", "space 3 ;", "y : ret ;", "y : ;", "mov ax , bx ;", "mov ax , [ bx + si - 1 + x ] ;",
        "mov [ 5 ] , ax ;", "mov [ x ] , 7 ;", "mov ax , @ x ;", "mov ds , ax ;", "mov es , [ di ] ;",
        "mov [ di ] , cs ;", "mov ax , cs ;", "add ax , cx ;", "or [ bp ] , dx ;", "cmp [ bp ] , 9 ;", "xor ax , x ;",
        "inc ax ;", "dec di ;", "push cs ;", "pop ds ;", "push ax ;", "pop di ;", "shl ax ;", "shr [ bx ] ;",
        "neg [ 1 ] ;", "mul si ;", "div [ si ] ;", "jmp x ;", "jc x ;", "loop x ;", "call x ;", "callf x ;", "ret ;",
        "retf ;", "int 3 ;", "hlt ;"};

    public static void main(String[] args) {
        textShape();
        aligns();
        oneName();
        wordValues();
        bytesBelow256();
        spaceBelow65();
        intBelow256();
        twoOperands();
        oneOperand();
        registersInBrackets();
        partsInBrackets();
        minusInBrackets();
        oneNameInBrackets();
        beforeTheFirstSeg();
        missingAtTheEnd();
        noneInTheMiddle();
        firstOfTwo();
        Check.end();
    }

    /** "TEXT: { [ NAME : ] [ STATEMENT ] ; }" */
    private static void textShape() {
        Check.assembles("", 0);
        Check.assembles(";", 0);
        Check.assembles(SEG + "x:;", 0);
        Check.assembles(SEG + "x:ret;", 1);
        Check.assembles(SEG + "ret;", 1);
        Check.stops(SEG + "x", 9);
        Check.stops(SEG + "x;", 9);
        Check.stops(SEG + "x:", 10);
        Check.stops(SEG + "x:y:;", 10);
        Check.stops(SEG + "ret", 11);
        Check.stops(SEG + "ret ret;", 12);
        Check.stops(SEG + "ret x:;", 12);
        Check.stops(SEG + "x ret;", 10);
        Check.stops(SEG + ":ret;", 8);
        Check.stops(SEG + "5:ret;", 8);
        Check.stops(SEG + "ax:ret;", 8);
    }

    /** "NUMBER (1, 2, 4, 8, 16, its ALIGN)" */
    private static void aligns() {
        for (int n = 0; n <= 66; n++) {
            if (n == 1 || n == 2 || n == 4 || n == 8 || n == 16) {
                Check.assembles("seg c " + n + ";", 0);
            } else {
                Check.stops("seg c " + n + ";", 6);
            }
        }
        for (int n : new int[] {128, 256, 257, 4096, 32768, 65535}) {
            Check.stops("seg c " + n + ";", 6);
        }
        Check.stops("seg c;", 5);
        Check.stops("seg 1;", 4);
        Check.stops("seg c -1;", 6);
        Check.stops("seg c d;", 6);
        Check.stops("seg c 1,2;", 7);
    }

    /** "public NAME | extern NAME" */
    private static void oneName() {
        for (String word : new String[] {"public", "extern"}) {
            Check.stops(word + ";", 6);
            Check.stops(word + " 5;", 7);
            Check.stops(word + " ax;", 7);
            Check.stops(word + " @x;", 7);
            Check.stops(word + " x,y;", 8);
            Check.stops(word + " x y;", 9);
            Check.stops(word + " x:;", 8);
        }
    }

    /** "VALUE V: NUMBER | NAME | @ NAME", one or more with commas between. */
    private static void wordValues() {
        Check.assembles(X + "word 0;", 2);
        Check.assembles(X + "word x;", 2);
        Check.assembles(X + "word @x;", 2);
        Check.assembles(X + "word 1,x,@x,65535;", 8);
        Check.stops(X + "word;", 15);
        Check.stops(X + "word ,1;", 16);
        Check.stops(X + "word 1,;", 18);
        Check.stops(X + "word 1 x;", 18);
        Check.stops(X + "word 1+1;", 17);
        Check.stops(X + "word x+1;", 17);
        for (String no : new String[] {"ax", "ds", "[1]", "-1", "+1", ":", "mov", "word"}) {
            Check.stops(X + "word " + no + ";", 16);
            Check.stops(X + "word 1," + no + ";", 18);
            Check.stops(X + "word @" + no + ";", 17);
        }
        Check.stops(X + "word @;", 17);
        Check.stops(X + "word @1;", 17);
    }

    /** "byte NUMBER { , NUMBER } (below 256)" */
    private static void bytesBelow256() {
        Check.assembles(X + "byte 0;", 1);
        Check.assembles(X + "byte 255;", 1);
        Check.assembles(X + "byte 255,0,255;", 3);
        Check.stops(X + "byte 256;", 16);
        Check.stops(X + "byte 65535;", 16);
        Check.stops(X + "byte 1,256;", 18);
        Check.stops(X + "byte 1,2,256,3;", 20);
        Check.stops(X + "byte;", 15);
        Check.stops(X + "byte 1,;", 18);
        Check.stops(X + "byte 1 2;", 18);
        for (String no : new String[] {"x", "@x", "ax", "-1", "[1]"}) {
            Check.stops(X + "byte " + no + ";", 16);
            Check.stops(X + "byte 1," + no + ";", 18);
        }
    }

    /** "space NUMBER (below 65)" */
    private static void spaceBelow65() {
        Check.assembles(X + "space 0;", 0);
        Check.assembles(X + "space 1;", 1);
        Check.assembles(X + "space 64;", 64);
        for (String no : new String[] {"65", "66", "128", "256", "65535", "x", "@x", "ax", ";"}) {
            Check.stops(X + "space " + no + ";", 17);
        }
        Check.stops(X + "space 1,2;", 18);
    }

    /** "int NUMBER (below 256)" */
    private static void intBelow256() {
        Check.assembles(X + "int 0;", 2);
        Check.assembles(X + "int 255;", 2);
        for (String no : new String[] {"256", "257", "65535", "x", "@x", "ax", ";"}) {
            Check.stops(X + "int " + no + ";", 15);
        }
    }

    /** By the left one of OPERANDS, which right ones may follow it; nothing: it can't stand itself. */
    private static void twoOperands() {
        String[] arithmetic = {"ynnyyyy", "", "", "ynnnyyy", "", "", ""};
        pairs("mov", new String[] {"yyyyyyy", "ynnynnn", "", "yyynyyy", "", "", ""});
        for (String word : "add or and sub xor cmp".split(" ")) {
            pairs(word, arithmetic);
        }
    }

    private static void pairs(String word, String[] allowed) {
        int left = X.length() + word.length() + 1;
        for (int a = 0; a < OPERANDS.length; a++) {
            for (int b = 0; b < OPERANDS.length; b++) {
                String text = X + word + " " + OPERANDS[a] + "," + OPERANDS[b] + ";";
                if (allowed[a].isEmpty()) {
                    Check.stops(text, left);
                } else if (allowed[a].charAt(b) == 'n') {
                    Check.stops(text, left + OPERANDS[a].length() + 1);
                } else {
                    Check.isRight(text);
                }
            }
            if (!allowed[a].isEmpty()) {
                int behind = left + OPERANDS[a].length();
                Check.stops(X + word + " " + OPERANDS[a] + ";", behind);
                Check.stops(X + word + " " + OPERANDS[a] + " dx;", behind + 1);
                Check.stops(X + word + " " + OPERANDS[a] + ",dx,dx;", behind + 3);
            }
        }
        Check.stops(X + word + ";", left - 1);
    }

    /** "inc R", "push S", "pop S (not cs)", "shl M", "jmp NAME", "int NUMBER", "ret": by OPERANDS, which may stand. */
    private static void oneOperand() {
        String[][] rows = {{"inc dec", "ynnnnnn"}, {"push", "yyynnnn"}, {"pop", "yynnnnn"},
            {"shl shr neg mul div", "ynnynnn"}, {"jmp jc jnc jz jnz js jns loop call callf", "nnnnnyn"},
            {"int", "nnnnynn"}, {"ret retf hlt", "nnnnnnn"}};
        for (String[] row : rows) {
            for (String word : row[0].split(" ")) {
                single(word, row[1]);
            }
        }
        Check.isRight(X + "ret;retf;hlt;");
    }

    private static void single(String word, String allowed) {
        int at = X.length() + word.length() + 1;
        for (int a = 0; a < OPERANDS.length; a++) {
            String text = X + word + " " + OPERANDS[a];
            if (allowed.charAt(a) == 'y') {
                Check.isRight(text + ";");
                Check.stops(text + ",dx;", at + OPERANDS[a].length());
                Check.stops(text + " dx;", at + OPERANDS[a].length() + 1);
            } else {
                Check.stops(text + ";", at);
            }
        }
        if (allowed.contains("y")) {
            Check.stops(X + word + ";", at - 1);
        }
    }

    /** "at most one of bx, bp, one of si, di" */
    private static void registersInBrackets() {
        String[] parts = {"bx", "bp", "si", "di"};
        for (int a = 0; a < 4; a++) {
            Check.isRight(SEG + "neg [" + parts[a] + "];");
            for (int b = 0; b < 4; b++) {
                if (a / 2 == b / 2) {
                    Check.stops(SEG + "neg [" + parts[a] + "+" + parts[b] + "];", 16);
                    Check.stops(SEG + "neg [" + parts[a] + "+1+" + parts[b] + "];", 18);
                } else {
                    Check.isRight(SEG + "neg [" + parts[a] + "+" + parts[b] + "];");
                    Check.isRight(SEG + "neg [1+" + parts[a] + "-2+" + parts[b] + "+c];");
                    Check.stops(SEG + "neg [" + parts[a] + "+" + parts[b] + "+" + parts[a] + "];", 19);
                }
            }
        }
    }

    /** "nothing after [ or + but a PART" */
    private static void partsInBrackets() {
        for (String part : new String[] {"bx", "bp", "si", "di", "0", "65535", "c"}) {
            Check.isRight(SEG + "neg [" + part + "];");
            Check.isRight(SEG + "neg [1+" + part + "];");
        }
        String[] others = {"ax", "cx", "dx", "sp", "es", "cs", "ss", "ds", "@c", "[", "]", ",", ":", ";", "+", "-", "mov",
            "seg", "65536", "#", "abcdefg", ""};
        for (String no : others) {
            Check.stops(SEG + "neg [" + no + "];", 13);
            Check.stops(SEG + "neg [1+" + no + "];", 15);
        }
        Check.stops(SEG + "neg [1 1];", 15);
        Check.stops(SEG + "neg [bx si];", 16);
        Check.stops(SEG + "neg [bx,si];", 15);
        Check.stops(SEG + "neg [bx;", 15);
        Check.stops(SEG + "neg bx];", 14);
    }

    /** "- NUMBER": nothing but a NUMBER, and not in front. */
    private static void minusInBrackets() {
        Check.isRight(SEG + "neg [bx-0];");
        Check.isRight(SEG + "neg [bx-1-2-3];");
        Check.isRight(SEG + "neg [c-65535];");
        Check.stops(SEG + "neg [-1];", 13);
        for (String no : new String[] {"bx", "si", "c", "@c", "-", "+", "]", "[", "65536", "ax", ""}) {
            Check.stops(SEG + "neg [1-" + no + "];", 15);
        }
    }

    /** "at most .. one NAME" */
    private static void oneNameInBrackets() {
        Check.isRight(X + "neg [x];");
        Check.isRight(X + "neg [1+x+bx];");
        Check.isRight(X + "mov [x],x;");
        Check.stops(X + "neg [x+x];", 18);
        Check.stops(X + "neg [x+c];", 18);
        Check.stops(X + "neg [x+1+c];", 20);
        Check.stops(X + "neg [x-1+x];", 20);
        Check.stops(X + "neg [nil+x];", 20);
    }

    /** "Before the first seg there is no NAME : and no other STATEMENT than seg, public, extern." */
    private static void beforeTheFirstSeg() {
        Check.assembles("extern e;public x;seg c 1;x:;", 0);
        Check.assembles(";;extern e;;seg c 1;", 0);
        for (String word : WORDS.split(" ")) {
            Check.stops(word + ";", 0);
            Check.stops(word + " ax,1;", 0);
            Check.stops(word + "#", 0);
            Check.stops("extern e;" + word + " e;seg c 1;", 9);
            Check.stops("public x; ;" + word + " 1;seg c 1;x:;", 11);
        }
        Check.stops("x:;", 0);
        Check.stops("x", 0);
        Check.stops("x:seg c 1;", 0);
        Check.stops("x:extern e;", 0);
        Check.stops("x:ret;", 0);
        Check.stops("x#", 0);
        Check.stops("extern e; e:;", 10);
        Check.stops("seg c 3;x:;", 6);
        Check.assembles("seg c 1;x:ret;", 1);
        SegmentBench bench = Check.modules("seg c 1;x:ret;");
        for (String text : new String[] {"x:;", "ret;", "seg c 1;inc;", "x:;", "word 1;"}) {
            Check.type(bench, text);
            Check.thrown("a seg of the text before is none: " + text, () -> bench.assemble(0),
                    UnsupportedOperationException.class);
            Check.due("place", () -> bench.count(2), text.startsWith("seg") ? 11 : 0);
        }
    }

    /** "its length if something is missing at the end" */
    private static void missingAtTheEnd() {
        for (String statement : STATEMENTS) {
            String[] tokens = statement.split(" ");
            String text = X;
            for (int k = 0; k < tokens.length - 1; k++) {
                text = text + tokens[k] + " ";
                Check.stops(text.trim(), text.length() - 1);
                Check.stops(text, text.length());
                Check.stops(text + "   ", text.length() + 3);
            }
            Check.isRight(text + ";");
            Check.isRight(text + ";  ");
        }
        Check.stops("seg", 3);
        Check.stops("seg c", 5);
        Check.stops("seg c 1", 7);
        Check.stops("public", 6);
        Check.stops("extern e", 8);
        Check.stops(X + Check.times(" ", 466) + "ret", 480);
    }

    /** "at the first TOKEN, or sign that is none, with which it can't go on like this" */
    private static void noneInTheMiddle() {
        for (String statement : STATEMENTS) {
            String[] tokens = statement.split(" ");
            String text = X;
            for (int k = 0; k < tokens.length; k++) {
                Check.stops(text + "# " + tokens[k], text.length());
                Check.stops(text + "abcdefg;", text.length());
                Check.stops(text + "65536;", text.length());
                text = text + tokens[k] + " ";
            }
        }
    }

    /** The first one is told, whatever stands behind it. */
    private static void firstOfTwo() {
        Check.stops(SEG + "inc 5;inc 6;", 12);
        Check.stops(SEG + "ret;inc 5;#", 16);
        Check.stops("#" + SEG + "#", 0);
        Check.stops(SEG + "word 1 2 # 3", 15);
        Check.stops(SEG + "mov ax,[bx+bp+#", 19);
    }
}
