/** Terms, the text: its tokens, just inside and just outside what each sentence of them allows. */
public final class TokenEdgesTest {
    private static final String SEG = "seg c 1;";
    private static final String SIGNS = ":;,[]+-@";

    public static void main(String[] args) {
        lettersAndDigits();
        wordsOfSix();
        numbersTo65535();
        numberEndsAtLetter();
        signsAlone();
        signsThatAreNone();
        blanksOnlyPart();
        registers();
        tableWordsAreNoNames();
        Check.end();
    }

    /** "a letter a .. z, then as many letters or digits as follow" */
    private static void lettersAndDigits() {
        for (char a = 'a'; a <= 'z'; a++) {
            Check.assembles(SEG + a + "q:;", 0);
            Check.assembles(SEG + "q" + a + ":;", 0);
        }
        for (char digit = '0'; digit <= '9'; digit++) {
            Check.assembles(SEG + "q" + digit + ":;", 0);
            Check.stops(SEG + digit + "q:;", 8);
        }
        for (char outside : "`{AZ/".toCharArray()) {
            Check.stops(SEG + outside + "q:;", 8);
            Check.stops(SEG + "q" + outside + ":;", 9);
        }
        Check.assembles(SEG + "q1q2:;word q1q2;", 2);
        Check.wrong(SEG + "q1q2:;word q1;", 19);
    }

    /** "with more than 6 characters none" */
    private static void wordsOfSix() {
        Check.assembles(SEG + "abcdef:;", 0);
        Check.stops(SEG + "abcdefg:;", 8);
        Check.assembles(SEG + "a12345:;", 0);
        Check.stops(SEG + "a123456:;", 8);
        Check.stops(SEG + "abcdef g:;", 15);
        Check.assembles("seg abcdef 1;", 0);
        Check.stops("seg abcdefg 1;", 4);
        Check.stops("publics x;", 0);
        Check.stops("public abcdefg;", 7);
        Check.stops(SEG + "word abcdefg;", 13);
        Check.stops(SEG + "neg [abcdefg];", 13);
        Check.stops(SEG + "callfar x;", 8);
        Check.stops(SEG + "movmovmov", 8);
        Check.stops(SEG + Check.times("a", 472), 8);
        Check.assembles(SEG + "abcdef:;abcdeg:;bbcdef:;", 0);
        Check.wrong(SEG + "abcdef:;abcdef:;", 16);
    }

    /** "above 65535 none" */
    private static void numbersTo65535() {
        SegmentBench most = Check.modules(SEG + "word 65535,0,65534;");
        Check.same("65535", Check.bytes(most, 0, 0), "255 255 0 0 254 255");
        String[] tooLarge = {"65536", "65537", "99999", "100000", "655350", "4294967295", "4294967296", "4294967301",
            "18446744073709551616", "18446744073709551621", "00065536", Check.times("9", 400)};
        for (String number : tooLarge) {
            Check.stops(SEG + "word " + number + ";", 13);
            Check.stops(SEG + "word 1," + number + ";", 15);
            Check.stops(SEG + "byte " + number + ";", 13);
            Check.stops(SEG + "space " + number + ";", 14);
            Check.stops(SEG + "int " + number + ";", 12);
            Check.stops(SEG + "neg [" + number + "];", 13);
            Check.stops(SEG + "neg [bx-" + number + "];", 16);
        }
        Check.stops("seg c 65537;", 6);
        Check.stops("seg c 4294967297;", 6);
        SegmentBench zeros = Check.modules(SEG + "word " + Check.times("0", 460) + "65535;");
        Check.same("zeros before", Check.bytes(zeros, 0, 0), "255 255");
        Check.assembles(SEG + "neg [bx-65535];neg [bx+65535];", 6);
    }

    /** "one behind which a letter stands ends there" */
    private static void numberEndsAtLetter() {
        Check.stops(SEG + "word 5a;", 14);
        Check.stops(SEG + "word 65535a;", 18);
        Check.stops(SEG + "word 65536a;", 13);
        Check.stops(SEG + "byte 255z;", 16);
        Check.stops(SEG + "byte 256z;", 13);
        Check.stops(SEG + "space 64b;", 16);
        Check.stops(SEG + "int 3x;", 13);
        Check.stops(SEG + "neg [5bx];", 14);
        Check.stops("seg c 1x;", 7);
        Check.stops("seg c 16seg;", 8);
    }

    /** "each of : ; , [ ] + - @ alone" */
    private static void signsAlone() {
        Check.assembles(SEG + "x:mov [bx+si-1],@x;", 5);
        Check.assembles(SEG + ";;;", 0);
        Check.stops(SEG + "x::;", 10);
        Check.stops(SEG + "word 1,,2;", 15);
        Check.stops(SEG + "neg [[bx]];", 13);
        Check.stops(SEG + "neg [bx]];", 16);
        Check.stops(SEG + "neg [bx++1];", 16);
        Check.stops(SEG + "neg [bx--1];", 16);
        Check.stops(SEG + "word @@x;", 14);
    }

    /** "or sign that is none": every other sign, wherever it stands. */
    private static void signsThatAreNone() {
        for (char sign = 33; sign <= 126; sign++) {
            boolean isToken = sign >= 'a' && sign <= 'z' || sign >= '0' && sign <= '9' || SIGNS.indexOf(sign) >= 0;
            if (!isToken) {
                Check.stops("" + sign, 0);
                Check.stops(SEG + sign, 8);
                Check.stops(SEG + "x:" + sign + ";", 10);
                Check.stops(SEG + "word " + sign + ";", 13);
                Check.stops(SEG + "word 1" + sign + ";", 14);
                Check.stops(SEG + "neg [bx" + sign + "si];", 15);
                Check.stops(SEG + "ret" + sign + ";", 11);
                Check.stops(SEG + "ret;" + sign, 12);
            }
        }
    }

    /** "blanks only part them" */
    private static void blanksOnlyPart() {
        SegmentBench tight = Check.modules("seg c 1;x:mov ax,[bx+si-1];word x,@x,7;");
        SegmentBench wide = Check.modules("  seg   c  1  ;  x  :  mov  ax  ,  [  bx  +  si  -  1  ]  ;  word  x  ,"
                + "  @  x  ,  7  ;  ");
        Check.same("blanks", Check.bytes(wide, 0, 0), Check.bytes(tight, 0, 0));
        Check.same("fixups", Check.fixups(wide, 0), Check.fixups(tight, 0));
        Check.assembles("", 0);
        Check.assembles(" ", 0);
        Check.assembles(Check.times(" ", 480), 0);
        Check.assembles(SEG + "neg[bx];mov[1],ax;", 6);
        Check.stops("se g c 1;", 0);
        Check.stops(SEG + "re t;", 11);
        Check.stops(SEG + "word 1 0;", 15);
        Check.stops("seg c 1 6;", 8);
        Check.stops("segc 1;", 0);
        Check.stops(SEG + "movax,1;", 13);
    }

    /** "ax cx dx bx sp bp si di, of codes 0 .. 7; es cs ss ds, 0 .. 3" */
    private static void registers() {
        String[] r = {"ax", "cx", "dx", "bx", "sp", "bp", "si", "di"};
        for (int i = 0; i < r.length; i++) {
            SegmentBench bench = Check.modules(SEG + "inc " + r[i] + ";");
            int code = i;
            Check.due("code of " + r[i], () -> bench.code(0, 0, 0), 64 + code);
            Check.stops(SEG + r[i] + ":;", 8);
        }
        String[] s = {"es", "cs", "ss", "ds"};
        for (int i = 0; i < s.length; i++) {
            SegmentBench bench = Check.modules(SEG + "push " + s[i] + ";");
            int code = i;
            Check.due("code of " + s[i], () -> bench.code(0, 0, 0), 6 + 8 * code);
            Check.stops(SEG + s[i] + ":;", 8);
        }
        for (String none : new String[] {"ay", "a", "x", "axe", "ip", "al", "fs", "gs", "AX", "es1", "0"}) {
            Check.stops(SEG + "push " + none + ";", 13);
        }
    }

    /** "WORDS that are none of these and none of those in the table are NAMES." */
    private static void tableWordsAreNoNames() {
        String words = "mov add or and sub xor cmp inc dec push pop shl shr neg mul div jmp jc jnc jz jnz js jns loop "
                + "call callf ret retf int hlt seg public extern word byte space ax cx dx bx sp bp si di es cs ss ds";
        for (String word : words.split(" ")) {
            Check.stops("seg " + word + " 1;", 4);
            Check.stops("public " + word + ";", 7);
            Check.stops("extern " + word + ";", 7);
            Check.stops(SEG + "word @" + word + ";", 14);
            Check.stops(SEG + "jmp " + word + ";", 12);
            Check.stops(SEG + word + ":;", word.length() == 2 && "ax cx dx bx sp bp si di es cs ss ds".contains(word)
                    ? 8 : 8 + word.length());
        }
        String near = "movs mo addx o andy subs xo cmp1 in pushs popp sh l jm j jcc jn jnzz loops loo calls callff rets "
                + "retff ints hl segs publi extrn words bytes spaces a x s e nop";
        for (String word : near.split(" ")) {
            Check.assembles(SEG + "public " + word + ";" + word + ":;word @" + word + ";", 2);
        }
    }
}
