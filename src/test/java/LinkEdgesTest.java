import java.util.NoSuchElementException;

/** Terms, modules and linking: aligns, places, fixups and what fails, sentence by sentence. */
public final class LinkEdgesTest {
    private static final String MAIN = "seg c 1;public main;main:hlt;";
    private static final int MOST = 1200;

    public static void main(String[] args) {
        nextMultipleOfAlign();
        nextMultipleOf16();
        orderOfParts();
        zerosBetween();
        madeAnew();
        publicTwice();
        unsolved();
        noMain();
        tooLong();
        apart();
        failsInOrder();
        offsetFixups();
        paragraphFixups();
        nearFixups();
        modulesThatAreNotThere();
        Check.end();
    }

    private static void links(int bytes, String... texts) {
        SegmentBench bench = Check.modules(texts);
        String what = "link " + String.join(" | ", java.util.Arrays.asList(texts));
        Check.due(what, () -> bench.link(), bytes);
        Check.failure(what, bench, -1, -1);
        Check.due(what + ": bytes", () -> bench.count(3), bytes);
        for (int at : new int[] {bytes, bytes + 1, Integer.MAX_VALUE, -1, Integer.MIN_VALUE}) {
            Check.thrown(what + ": none at " + at, () -> bench.image(at), IndexOutOfBoundsException.class);
        }
    }

    private static void fails(int kind, int place, Class<? extends RuntimeException> want, String... texts) {
        SegmentBench bench = Check.modules(texts);
        String what = "link " + String.join(" | ", java.util.Arrays.asList(texts));
        Check.thrown(what, () -> bench.link(), want);
        Check.failure(what, bench, kind, place);
        Check.due(what + ": no image", () -> bench.count(3), 0);
        Check.thrown(what + ": no byte", () -> bench.image(0), IndexOutOfBoundsException.class);
        Check.thrown(what + ": no load", () -> bench.load(0), IllegalStateException.class);
    }

    /** "one behind another, each at the next multiple of its ALIGN" */
    private static void nextMultipleOfAlign() {
        for (int align : new int[] {1, 2, 4, 8, 16}) {
            for (int before : new int[] {0, 1, align - 1, align, align + 1, 31, 32, 33}) {
                int begin = (before + align - 1) / align * align;
                SegmentBench bench = Check.modules("seg c 1;public main;main:;" + Check.space(before),
                        "seg c " + align + ";byte 9;x:word x;");
                Check.due("align " + align + " behind " + before, () -> bench.link(), begin + 3);
                Check.due("its byte", () -> bench.image(begin), 9);
                Check.due("its label", () -> bench.image(begin + 1), begin + 1);
            }
        }
        links(17, MAIN, null, "seg c 16;ret;");
        links(16, "seg c 16;public main;main:" + Check.space(16), "seg c 16;");
        links(16, MAIN, "seg c 16;");
        links(4, MAIN, "seg c 2;byte 1;", "seg c 1;byte 1;");
        links(5, MAIN, "seg c 1;byte 1;", "seg c 4;byte 1;");
    }

    /** "each at the next multiple of 16" */
    private static void nextMultipleOf16() {
        for (int before : new int[] {0, 1, 15, 16, 17, 31, 32, 33, 255, 256, 257}) {
            int place = (before + 15) / 16 * 16;
            SegmentBench bench = Check.modules("seg a 1;" + Check.space(before) + "seg b 1;byte 7;public main;main:hlt;");
            Check.due("behind " + before, () -> bench.link(), place + 2);
            Check.due("its byte", () -> bench.image(place), 7);
            Check.due("main", () -> bench.load(0), 1);
            Check.due("cs", () -> bench.register(9), place / 16);
        }
        links(0, "seg a 1;seg b 1;public main;main:seg d 16;");
        links(16, "seg a 1;ret;public main;main:seg b 1;");
        links(32, "seg a 1;ret;public main;main:seg b 1;" + Check.space(16));
        links(33, "seg a 1;ret;public main;main:seg b 1;ret;seg d 1;ret;");
    }

    /** "by rising numbers", "in the order of first parts (SEGMENTS in the order of their first seg)" */
    private static void orderOfParts() {
        SegmentBench bench = new SegmentBench();
        Check.type(bench, "seg b 1;byte 5;seg a 1;byte 6;").assemble(2);
        Check.type(bench, "seg d 1;byte 3;seg a 1;byte 4;").assemble(1);
        Check.type(bench, "seg a 1;byte 1;public main;main:seg e 1;byte 2;seg a 1;byte 7;").assemble(0);
        Check.due("link", () -> bench.link(), 49);
        Check.same("a", Check.image(bench, 0, 5), "1 7 4 6 0");
        Check.same("e", Check.image(bench, 16, 18), "2 0");
        Check.same("d", Check.image(bench, 32, 34), "3 0");
        Check.same("b", Check.image(bench, 48, 49), "5");
        bench.drop(1);
        Check.due("without 1", () -> bench.link(), 33);
        Check.same("a", Check.image(bench, 0, 5), "1 7 6 0 0");
        Check.same("b", Check.image(bench, 32, 33), "5");
        SegmentBench first = Check.modules("seg a 1;seg b 1;seg a 1;byte 1;",
                "seg d 1;byte 4;seg b 1;byte 2;public main;main:;");
        Check.due("an empty one is first, too", () -> first.link(), 33);
        Check.same("a", Check.image(first, 0, 1), "1");
        Check.same("b", Check.image(first, 16, 17), "2");
        Check.same("d", Check.image(first, 32, 33), "4");
    }

    /** "between are zeros", also where an earlier image had bytes. */
    private static void zerosBetween() {
        String full = "byte 9" + Check.times(",9", 59) + ";";
        SegmentBench bench = Check.modules("seg c 1;public main;main:" + full, "seg c 1;" + full);
        bench.link();
        Check.type(bench, "seg c 1;public main;main:byte 1;").assemble(0);
        Check.type(bench, "seg c 4;byte 2;seg d 1;byte 3;").assemble(1);
        Check.due("link", () -> bench.link(), 17);
        Check.same("zeros", Check.image(bench, 0, 17), "1 0 0 0 2 0 0 0 0 0 0 0 0 0 0 0 3");
        bench.load(0);
        for (int i = 17; i < 130; i++) {
            int at = i;
            Check.due("memory " + i, () -> bench.memory(at), 0);
        }
    }

    /** A module that is made anew leaves nothing of what it was. */
    private static void madeAnew() {
        SegmentBench bench = Check.modules("seg a 1;public main;main:byte 1,1,1;",
                "seg e 1;ret;seg a 1;x:word x,@x;public y;y:;");
        Check.due("link", () -> bench.link(), 17);
        Check.type(bench, "seg a 1;public main;main:byte 1,2,3,4,5,6,7,8,9;public y;y:;").assemble(0);
        Check.type(bench, "seg e 1;byte 77;").assemble(1);
        Check.due("link", () -> bench.link(), 17);
        Check.same("image", Check.image(bench, 0, 17), "1 2 3 4 5 6 7 8 9 0 0 0 0 0 0 0 77");
        Check.same("relocations, segments, fixups", bench.count(4) + " " + bench.count(9) + " " + bench.count(12), "0 1 0");
        Check.thrown("the second segment", () -> bench.code(1, 1, 0), IndexOutOfBoundsException.class);
    }

    /** "KIND 5: a NAME is PUBLIC in an earlier one, too (the least later MODULE)" */
    private static void publicTwice() {
        Class<? extends RuntimeException> want = UnsupportedOperationException.class;
        String x = "seg c 1;public x;x:;";
        String y = "seg c 4;public y;y:;";
        String xy = "seg c 1;public x;x:;public y;y:;";
        fails(5, 1, want, MAIN, MAIN);
        fails(5, 2, want, MAIN, null, MAIN);
        fails(5, 2, want, null, MAIN, MAIN);
        fails(5, 1, want, MAIN, MAIN, MAIN);
        fails(5, 1, want, x, xy, y);
        fails(5, 2, want, x, y, xy);
        fails(5, 2, want, y, x, "seg q 1;public y;y:;");
        fails(5, 2, want, MAIN, x, "seg d 4;public x;x:;");
        links(4, MAIN, x, y);
        links(1, "public main;seg c 1;public main;main:hlt;public main;", x);
        links(1, MAIN, "seg c 1;main:;x:;", "seg c 1;x:;main:;");
        links(3, MAIN, "extern x;seg c 1;word x;", x);
    }

    /** "6: an EXTERN that is a FIXUP's is PUBLIC nowhere (the least MODULE)" */
    private static void unsolved() {
        Class<? extends RuntimeException> want = NoSuchElementException.class;
        String[] uses = {"word x;", "word @x;", "jmp x;", "call x;", "callf x;", "neg [x];", "mov ax,x;"};
        for (String use : uses) {
            fails(6, 0, want, "extern x;" + MAIN + use);
            fails(6, 1, want, MAIN, "extern x;seg c 1;" + use, "extern x;seg c 1;" + use);
            fails(6, 2, want, MAIN, "seg c 1;x:;", "extern x;seg c 1;" + use);
            fails(6, 0, want, "extern x;" + MAIN + use, "extern x;seg c 1;" + use, "seg x 1;");
            SegmentBench bench = Check.modules("extern x;" + MAIN + use, null, "seg c 1;public x;x:;");
            Check.same(use, "" + (bench.link() > 1), "true");
        }
        links(1, "extern x;" + MAIN, "extern x;seg c 1;");
        fails(6, 1, want, "extern x;" + MAIN, "extern x;seg c 1;word x;");
        fails(6, 0, want, "extern x;extern y;" + MAIN + "word x,y;", "seg c 1;public x;x:;");
    }

    /** "8: main is PUBLIC nowhere (PLACE -1)" */
    private static void noMain() {
        fails(8, -1, NoSuchElementException.class, "");
        fails(8, -1, NoSuchElementException.class, "seg c 1;main:hlt;");
        fails(8, -1, NoSuchElementException.class, "seg main 1;hlt;");
        fails(8, -1, NoSuchElementException.class, "extern main;seg c 1;hlt;");
        fails(8, -1, NoSuchElementException.class, "seg c 1;public mai;mai:;public main1;main1:;public amain;amain:;");
        links(1, null, MAIN);
        links(1, "public main;seg c 1;main:hlt;");
        links(1, "seg c 1;main:hlt;public main;");
        links(1, "", "", MAIN);
        fails(6, 0, NoSuchElementException.class, "extern main;seg c 1;word main;");
    }

    /** "9: the IMAGE has more than 1200 bytes (PLACE -1)" */
    private static void tooLong() {
        Class<? extends RuntimeException> want = IndexOutOfBoundsException.class;
        String main = "seg c 1;public main;main:";
        String full = Check.space(400);
        links(MOST, main + full, "seg c 1;" + full, "seg c 1;" + full);
        links(MOST, main + full, "seg d 16;" + full, "seg e 16;" + full);
        links(MOST, main + Check.space(399), "seg c 2;" + full, "seg c 1;" + full);
        for (int last = 14; last <= 17; last++) {
            String first = main + Check.space(383) + "seg d 1;" + Check.space(last);
            if (last <= 16) {
                links(1184 + last, first, "seg c 1;" + full, "seg c 1;" + full);
            } else {
                fails(9, -1, want, first, "seg c 1;" + full, "seg c 1;" + full);
            }
        }
        fails(9, -1, want, main + full, "seg c 1;" + full, "seg c 1;" + Check.space(399) + "seg d 1;byte 1;");
        links(MOST, main + Check.space(384) + "seg d 1;byte 1;", "seg e 1;" + full, "seg f 1;" + full);
        fails(9, -1, want, main + Check.space(385) + "seg d 1;byte 1;", "seg e 1;" + full, "seg f 1;" + full);
    }

    /** "7: a FIXUP of KIND 2 whose PUBLIC lies in another COMBINED SEGMENT than itself (the least MODULE)" */
    private static void apart() {
        Class<? extends RuntimeException> want = ArithmeticException.class;
        String x = "seg d 1;public x;x:ret;";
        fails(7, 0, want, "extern x;" + MAIN + "jmp x;", x);
        fails(7, 0, want, "extern x;" + MAIN + "call x;", x, "extern x;seg c 1;jmp x;");
        fails(7, 1, want, MAIN, "extern x;seg c 1;jmp x;", x);
        fails(7, 2, want, MAIN, x, "extern x;seg d 1;jmp x;seg c 1;jmp x;");
        fails(7, 2, want, MAIN + "extern x;seg d 1;call x;", x, "extern x;seg c 1;jmp x;");
        links(20, "extern x;" + MAIN + "seg d 2;jmp x;", x);
        links(5, "extern x;" + MAIN + "jmp x;", "seg c 1;public x;x:ret;");
        links(17, "extern x;" + MAIN + "callf x;mov ax,[x];word @x;", x);
    }

    /** Every set of failures: the first of 5, 6, 8, 9, 7 is told. */
    private static void failsInOrder() {
        int[] kinds = {5, 6, 8, 9, 7};
        int[] places = {2, 0, -1, -1, 0};
        for (int set = 0; set < 32; set++) {
            String first = "extern x;extern q;seg c 1;" + (has(set, 2) ? "" : "public main;") + "main:"
                    + (has(set, 4) ? "jmp x;" : "word x;ret;") + (has(set, 1) ? "word q;" : "ret;ret;") + Check.space(390);
            String second = "seg d 1;public x;x:" + Check.space(390);
            String third = "seg e 1;" + (has(set, 0) ? "public x;" : "") + "x:" + Check.space(390)
                    + (has(set, 3) ? "seg f 1;byte 1;" : "");
            int told = Integer.numberOfTrailingZeros(set);
            if (set == 0) {
                links(1190, first, second, third);
            } else {
                fails(kinds[told], places[told], thrown(kinds[told]), first, second, third);
            }
        }
    }

    private static boolean has(int set, int i) {
        return (set >> i & 1) == 1;
    }

    private static Class<? extends RuntimeException> thrown(int kind) {
        switch (kind) {
            case 5:
                return UnsupportedOperationException.class;
            case 7:
                return ArithmeticException.class;
            case 9:
                return IndexOutOfBoundsException.class;
            default:
                return NoSuchElementException.class;
        }
    }

    /** "0: to the two bytes is added where the part begins .., or for an EXTERN the OFFSET of the PUBLIC there" */
    private static void offsetFixups() {
        SegmentBench bench = Check.modules("seg c 1;public main;main:" + Check.space(300),
                "seg c 1;x:word x,c;neg [x+65535];neg [bx+c-1];ret;public y;y:word y;",
                "extern y;seg d 1;ret;z:word z,d,y;neg [y-314];neg [si+y+65535];seg c 2;word z,d,c;");
        Check.due("link", () -> bench.link(), 351);
        Check.same("own part", Check.image(bench, 300, 315), "44 1 44 1 247 30 43 1 247 159 43 1 195 57 1");
        Check.same("third part", Check.image(bench, 315, 322), "0 1 0 0 0 60 1");
        Check.same("extern", Check.image(bench, 336, 351), "195 1 0 0 0 57 1 247 30 255 255 247 156 56 1");
        Check.due("no relocations", () -> bench.count(4), 0);
    }

    /** "1: the COMBINED SEGMENT's place in the IMAGE / 16, and it is a RELOCATION" */
    private static void paragraphFixups() {
        SegmentBench bench = Check.modules(
                "seg a 1;" + Check.space(17) + "seg c 1;public main;main:word @a,@c,@main,@x;extern x;",
                "seg e 1;ret;seg c 4;public x;x:word @e,@x,@c;");
        Check.due("link", () -> bench.link(), 49);
        Check.same("paragraphs", Check.image(bench, 32, 46), "0 0 2 0 2 0 2 0 3 0 2 0 2 0");
        Check.due("relocations", () -> bench.count(4), 7);
        Check.due("load", () -> bench.load(255), 0);
        int[] want = {255, 0, 1, 1, 1, 1, 1, 1, 2, 1, 1, 1, 1, 1};
        for (int i = 0; i < want.length; i++) {
            int at = (16 * 255 + 32 + i) % 4096;
            Check.due("memory " + at, () -> bench.memory(at), want[i]);
        }
        Check.same("the image stays", Check.image(bench, 32, 46), "0 0 2 0 2 0 2 0 3 0 2 0 2 0");
    }

    /** "2: the PUBLIC's OFFSET minus that behind the two bytes, in the COMBINED SEGMENT" */
    private static void nearFixups() {
        SegmentBench next = Check.modules("extern f;seg c 1;public main;main:call f;", "seg c 1;public f;f:ret;");
        Check.due("link", () -> next.link(), 4);
        Check.same("0", Check.image(next, 0, 4), "232 0 0 195");
        SegmentBench back = Check.modules("seg c 1;public f;f:public main;main:;", "extern f;seg c 1;call f;");
        Check.due("link", () -> back.link(), 3);
        Check.same("-3", Check.image(back, 0, 3), "232 253 255");
        SegmentBench far = Check.modules("seg c 1;public b;b:ret;public main;main:hlt;",
                "extern b;extern f;seg c 4;jmp b;call f;jmp f;",
                "extern b;seg c 1;" + Check.space(256) + "public f;f:jmp b;");
        Check.due("link", () -> far.link(), 272);
        Check.same("over parts", Check.image(far, 0, 13), "195 244 0 0 233 249 255 232 3 1 233 0 1");
        Check.same("to the first", Check.image(far, 269, 272), "233 240 254");
        Check.due("no relocations", () -> far.count(4), 0);
    }

    /** What is dropped is not linked; an image stays until there is another. */
    private static void modulesThatAreNotThere() {
        SegmentBench bench = Check.modules(MAIN, "seg c 1;public x;x:byte 1;", "extern x;seg c 1;word x;");
        Check.due("all", () -> bench.link(), 4);
        bench.drop(1);
        Check.thrown("x is gone", () -> bench.link(), NoSuchElementException.class);
        Check.failure("x is gone", bench, 6, 2);
        Check.same("the image stays", Check.image(bench, 0, 4), "244 1 1 0");
        bench.drop(2);
        Check.due("main alone", () -> bench.link(), 1);
        Check.failure("main alone", bench, -1, -1);
        bench.drop(0);
        Check.thrown("none", () -> bench.link(), IllegalStateException.class);
        Check.failure("none", bench, -1, -1);
        Check.due("the image stays", () -> bench.count(3), 1);
        Check.due("and loads", () -> bench.load(9), 0);
    }
}
