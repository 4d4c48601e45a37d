/** Terms, sizing: distances of -128 and 127 and one beyond, 400 bytes and 401: kinds 3 and 4. */
public final class SizingEdgesTest {
    private static final String SEG = "seg c 1;";
    private static final String[] BRANCHES = {"jc", "jnc", "jz", "jnz", "js", "jns", "loop"};
    private static final int[] CODES = {114, 115, 116, 117, 120, 121, 226};

    public static void main(String[] args) {
        branches();
        shortOrNear();
        nearToExterns();
        calls();
        asFewAsCanBe();
        ownSegmentAlone();
        fourHundred();
        manyBeforeFar();
        firstTooFar();
        nothingStaysBehind();
        Check.end();
    }

    private static void far(String text, int place) {
        Check.fails(text, ArithmeticException.class, 3, place);
    }

    private static void many(String text) {
        Check.fails(text, IndexOutOfBoundsException.class, 4, -1);
    }

    private static String some(SegmentBench bench, int from, int end) {
        StringBuilder all = new StringBuilder();
        for (int i = from; i < end; i++) {
            all.append(i == from ? "" : " ").append(bench.code(0, 0, i));
        }
        return all.toString();
    }

    /** "a D of another INSTRUCTION is not -128 .. 127: KIND 3" */
    private static void branches() {
        for (int i = 0; i < BRANCHES.length; i++) {
            String word = BRANCHES[i];
            SegmentBench on = Check.modules(SEG + word + " x;" + Check.space(127) + "x:;");
            Check.same(word + " 127", some(on, 0, 2), CODES[i] + " 127");
            SegmentBench back = Check.modules(SEG + "x:" + Check.space(126) + word + " x;");
            Check.same(word + " -128", some(back, 126, 128), CODES[i] + " 128");
            SegmentBench next = Check.modules(SEG + word + " x;x:" + word + " x;");
            Check.same(word + " 0 and -2", some(next, 0, 4), CODES[i] + " 0 " + CODES[i] + " 254");
            far(SEG + word + " x;" + Check.space(128) + "x:;", 8);
            far(SEG + "x:" + Check.space(127) + word + " x;", 10 + Check.space(127).length());
            far(SEG + "y: " + word + " x;" + Check.space(300) + "x:;", 11);
        }
    }

    /** "so that each other one's D is -128 .. 127" */
    private static void shortOrNear() {
        SegmentBench on = Check.modules(SEG + "jmp x;" + Check.space(127) + "x:;");
        Check.same("127", some(on, 0, 2), "235 127");
        SegmentBench beyond = Check.modules(SEG + "jmp x;" + Check.space(128) + "x:;");
        Check.same("128", some(beyond, 0, 3), "233 128 0");
        SegmentBench back = Check.modules(SEG + "x:" + Check.space(126) + "jmp x;");
        Check.same("-128", some(back, 126, 128), "235 128");
        SegmentBench before = Check.modules(SEG + "x:" + Check.space(127) + "jmp x;");
        Check.same("-129, and then -130", some(before, 127, 130), "233 126 255");
        Check.assembles(SEG + "x:jmp x;", 2);
        Check.assembles(SEG + "jmp x;x:;", 2);
        SegmentBench far = Check.modules(SEG + "x:" + Check.space(397) + "jmp x;");
        Check.same("-400", some(far, 397, 400), "233 112 254");
        SegmentBench ahead = Check.modules(SEG + "jmp x;" + Check.space(397) + "x:;");
        Check.same("397", some(ahead, 0, 3), "233 141 1");
    }

    /** "near are jmps to EXTERNS" */
    private static void nearToExterns() {
        SegmentBench bench = Check.modules("extern e;" + SEG + "jmp e;jmp x;x:;");
        Check.same("near", some(bench, 0, 5), "233 0 0 235 0");
        SegmentBench later = Check.modules(SEG + "jmp e;extern e;");
        Check.same("near", some(later, 0, 3), "233 0 0");
        Check.assembles("extern e;" + SEG + "jmp x;jmp e;" + Check.space(124) + "x:;", 129);
        Check.assembles("extern e;" + SEG + "jmp x;jmp e;" + Check.space(125) + "x:;", 131);
    }

    /** A call has two bytes for any distance and pushes others apart by its three. */
    private static void calls() {
        SegmentBench on = Check.modules(SEG + "call x;" + Check.space(397) + "x:;");
        Check.same("397", some(on, 0, 3), "232 141 1");
        SegmentBench back = Check.modules(SEG + "x:" + Check.space(397) + "call x;");
        Check.same("-400", some(back, 397, 400), "232 112 254");
        SegmentBench self = Check.modules(SEG + "x:call x;");
        Check.same("-3", some(self, 0, 3), "232 253 255");
        Check.assembles(SEG + "jz x;call x;" + Check.space(124) + "x:;", 129);
        far(SEG + "jz x;call x;" + Check.space(125) + "x:;", 8);
        Check.assembles(SEG + "jz x;callf x;" + Check.space(122) + "x:;", 129);
        far(SEG + "jz x;callf x;" + Check.space(123) + "x:;", 8);
    }

    /** "as few others as can be" */
    private static void asFewAsCanBe() {
        Check.assembles(SEG + "a:jmp b;" + Check.space(124) + "b:jmp a;", 128);
        Check.assembles(SEG + "a:jmp b;" + Check.space(125) + "b:jmp a;", 2 + 125 + 3);
        Check.assembles(SEG + "a:jmp b;" + Check.space(127) + "b:jmp a;", 2 + 127 + 3);
        Check.assembles(SEG + "a:jmp b;" + Check.space(128) + "b:jmp a;", 3 + 128 + 3);
        Check.assembles(SEG + "jmp a;jmp b;" + Check.space(125) + "a:;" + Check.space(2) + "b:;", 2 + 2 + 127);
        Check.assembles(SEG + "jmp a;jmp b;" + Check.space(125) + "a:;" + Check.space(3) + "b:;", 3 + 3 + 128);
        Check.assembles(SEG + "jmp a;jmp b;" + Check.space(124) + "a:;" + Check.space(4) + "b:;", 2 + 3 + 128);
        // The last one grows by itself, and each before it because the one behind it has.
        String chain = "jmp a;jmp b;jmp d;" + Check.space(123) + "a:;" + Check.space(2) + "b:;";
        Check.assembles(SEG + chain + Check.space(2) + "d:;", 2 + 2 + 2 + 127);
        Check.assembles(SEG + chain + Check.space(3) + "d:;", 3 + 3 + 3 + 128);
        // The same the other way round.
        String back = "a:" + Check.space(2) + "b:" + Check.space(2) + "d:" + Check.space(120) + "jmp d;jmp b;";
        Check.assembles(SEG + back + "e:;", 2 + 2 + 120 + 2 + 2);
        Check.assembles(SEG + back + "jmp a;", 2 + 2 + 120 + 2 + 2 + 3);
        Check.assembles(SEG + "a:" + Check.space(1) + "b:" + Check.space(126) + "jmp b;jmp a;", 127 + 2 + 3);
    }

    /** "the LABEL's OFFSET minus that behind the INSTRUCTION": other segments are not between. */
    private static void ownSegmentAlone() {
        Check.assembles(SEG + "jmp x;seg d 1;" + Check.space(200) + "seg c 1;x:;", 202);
        Check.assembles(SEG + "jmp x;" + Check.space(127) + "seg d 1;" + Check.space(100) + "seg c 1;x:;", 229);
        Check.assembles(SEG + "jmp x;" + Check.space(127) + "seg d 1;" + Check.space(100) + "seg c 1;ret;x:;", 231);
        Check.assembles(SEG + "jz x;" + Check.space(100) + "seg d 1;" + Check.space(100) + "seg c 1;" + Check.space(27) + "x:;", 229);
        far(SEG + "jz x;" + Check.space(100) + "seg d 1;" + Check.space(100) + "seg c 1;" + Check.space(28) + "x:;", 8);
    }

    /** "all SEGMENTS have more than 400 bytes: KIND 4" */
    private static void fourHundred() {
        Check.assembles(SEG + Check.space(400), 400);
        many(SEG + Check.space(401));
        Check.assembles(SEG + Check.space(399) + "ret;", 400);
        many(SEG + Check.space(400) + "ret;");
        Check.assembles(SEG + Check.space(200) + "seg d 16;" + Check.space(200), 400);
        many(SEG + Check.space(200) + "seg d 16;" + Check.space(201));
        many(SEG + Check.space(134) + "seg d 1;" + Check.space(134) + "seg e 1;" + Check.space(133));
        Check.assembles(SEG + "x:" + Check.space(397) + "jmp x;", 400);
        many(SEG + "x:" + Check.space(398) + "jmp x;");
        Check.assembles(SEG + Check.space(398) + "x:jmp x;", 400);
        many(SEG + Check.space(399) + "x:jmp x;");
        Check.assembles(SEG + Check.space(397) + "jmp e;extern e;", 400);
        many(SEG + Check.space(398) + "jmp e;extern e;");
        many(SEG + Check.space(3000));
        SegmentBench bench = Check.modules(SEG + Check.space(396) + "word 772,258;");
        Check.same("the last", some(bench, 396, 400), "4 3 2 1");
        Check.thrown("400", () -> bench.code(0, 0, 400), IndexOutOfBoundsException.class);
    }

    /** Promise 3 tells 1, 2, 4 and 3 in this order. */
    private static void manyBeforeFar() {
        far(SEG + "jz x;" + Check.space(398) + "x:;", 8);
        many(SEG + "jz x;" + Check.space(399) + "x:;");
        many(SEG + Check.space(401) + "jz x;" + Check.space(128) + "x:;");
        Check.wrong(SEG + "jz x;" + Check.space(399) + "x:;word q;", 13 + Check.space(399).length() + 8);
        Check.stops(SEG + "jz x;" + Check.space(399) + "x:;word q;inc;", 13 + Check.space(399).length() + 13);
    }

    /** "at the WORD of the first such one" */
    private static void firstTooFar() {
        far(SEG + "x:jz x;" + Check.space(128) + " loop x;js x;", 15 + Check.space(128).length() + 1);
        far(SEG + "jz y;js x;y:jc x;" + Check.space(128) + "x:;", 13);
        far(SEG + "y:jmp x;l :  jc   x;" + Check.space(130) + "x:;", 21);
        far(SEG + "seg d 1;jz x;" + Check.space(128) + "x:;seg c 1;jz y;" + Check.space(128) + "y:;", 16);
        // A jmp that becomes near pushes the label of the jnz out of reach.
        Check.assembles(SEG + "jnz x;jmp y;" + Check.space(125) + "x:;y:;", 129);
        Check.assembles(SEG + "jnz x;jmp y;" + Check.space(125) + "x:;" + Check.space(2) + "y:;", 131);
        far(SEG + "jnz x;jmp y;" + Check.space(125) + "x:;" + Check.space(3) + "y:;", 8);
    }

    /** A text that failed leaves nothing for the next one. */
    private static void nothingStaysBehind() {
        SegmentBench bench = Check.type(new SegmentBench(), SEG + "x:" + Check.space(398) + "jmp x;");
        Check.thrown("401", () -> bench.assemble(0), IndexOutOfBoundsException.class);
        Check.type(bench, SEG + "jmp x;ret;x:;");
        Check.due("three", () -> bench.assemble(0), 3);
        Check.same("three", Check.bytes(bench, 0, 0), "235 1 195");
        Check.type(bench, SEG + "space 4;");
        Check.due("four", () -> bench.assemble(0), 4);
        Check.same("all 0", Check.bytes(bench, 0, 0), "0 0 0 0");
    }
}
