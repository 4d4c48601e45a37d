import java.util.NoSuchElementException;

/** Promises 4 (drop), 5 (link) and 10 (image). */
public final class LinkTest {
    private static final String MAIN = "seg c 1;public main;main:hlt;";

    public static void main(String[] args) {
        drops();
        combines();
        solves();
        fails();
        failsInOrder();
        keepsTheImage();
        manyFixups();
        limits();
        Check.end();
    }

    private static void drops() {
        SegmentBench bench = Check.modules(MAIN, null, "");
        Check.thrown("drop -1", () -> bench.drop(-1) ? 1 : 0, IllegalArgumentException.class);
        Check.thrown("drop 3", () -> bench.drop(3) ? 1 : 0, IllegalArgumentException.class);
        Check.same("was", bench.drop(0) + " " + bench.drop(0) + " " + bench.drop(1) + " " + bench.drop(2),
                "true false false true");
        Check.thrown("none is there", () -> bench.link(), IllegalStateException.class);
        Check.thrown("no code", () -> bench.code(0, 0, 0), IndexOutOfBoundsException.class);
        Check.type(bench, MAIN).assemble(0);
        Check.due("again", () -> bench.link(), 1);
    }

    private static void combines() {
        SegmentBench bench = Check.modules("seg a 1;byte 1;seg b 2;public main;main:byte 2,2,2;",
                "seg d 1;byte 9;seg b 2;byte 3;seg a 8;byte 4;", "seg b 1;byte 5;seg a 16;byte 6;");
        Check.due("link", () -> bench.link(), 49);
        Check.same("a", Check.image(bench, 0, 17), "1 0 0 0 0 0 0 0 4 0 0 0 0 0 0 0 6");
        Check.same("b", Check.image(bench, 17, 38), "0 0 0 0 0 0 0 0 0 0 0 0 0 0 0 2 2 2 0 3 5");
        Check.same("d", Check.image(bench, 38, 49), "0 0 0 0 0 0 0 0 0 0 9");
        Check.thrown("49", () -> bench.image(49), IndexOutOfBoundsException.class);
        Check.thrown("-1", () -> bench.image(-1), IndexOutOfBoundsException.class);
        Check.due("main", () -> bench.load(7), 0);
        Check.due("cs", () -> bench.register(9), 9);
        SegmentBench empty = Check.modules("seg c 1;public main;main:;");
        Check.due("an empty image", () -> empty.link(), 0);
        Check.due("is there", () -> empty.load(0), 0);
    }

    private static void solves() {
        SegmentBench bench = Check.modules(
                "extern f;extern v;seg c 1;public main;main:call f;jmp f;callf f;mov ax,[v+3];word @v,main,@main;",
                "seg d 1;byte 1,1,1;public v;v:word v,@v,c;seg c 4;ret;l:word l;public f;f:word f,c,@c,d;");
        Check.due("link", () -> bench.link(), 57);
        Check.same("code of 0", Check.image(bench, 0, 20), "232 24 0 233 21 0 154 27 0 0 0 139 6 6 0 3 0 0 0 0");
        Check.same("code of 1", Check.image(bench, 20, 40), "0 0 0 0 195 25 0 27 0 24 0 0 0 0 0 0 0 0 0 0");
        Check.same("data", Check.image(bench, 48, 57), "1 1 1 3 0 3 0 24 0");
        Check.due("relocations", () -> bench.count(4), 5);
        SegmentBench high = Check.modules("seg d 1;ret;seg c 1;space 5;",
                "seg c 1;public main;main:neg [main+300];neg [main-1];neg [main-6];seg d 16;word @c;");
        Check.due("high", () -> high.link(), 49);
        Check.same("in both bytes", Check.image(high, 37, 49), "247 30 49 1 247 30 4 0 247 30 255 255");
        Check.same("in the second part", Check.image(high, 16, 18), "2 0");
        SegmentBench first = Check.modules("extern d;seg c 1;public main;main:word @d;", "seg e 1;ret;public d;d:;");
        Check.due("first", () -> first.link(), 17);
        Check.same("at 0", Check.image(first, 0, 2), "1 0");
        SegmentBench back = Check.modules("seg c 1;public f;f:ret;", "seg c 1;extern f;public main;main:jmp f;");
        Check.due("back", () -> back.link(), 4);
        Check.same("goes below 0", Check.image(back, 0, 4), "195 233 252 255");
    }

    private static void fails() {
        failure(5, 1, UnsupportedOperationException.class, MAIN, MAIN);
        failure(5, 2, UnsupportedOperationException.class, MAIN, null, MAIN);
        failure(5, 1, UnsupportedOperationException.class, MAIN, "seg c 1;public x;x:;public main;main:;",
                "seg c 1;public x;x:;");
        failure(6, 0, NoSuchElementException.class, "extern e;seg c 1;public main;main:word e;");
        failure(6, 1, NoSuchElementException.class, MAIN, "extern e;seg c 1;call e;", "extern e;seg c 1;call e;");
        failure(6, 2, NoSuchElementException.class, MAIN, "seg c 1;e:;", "extern e;seg c 1;word @e;");
        failure(8, -1, NoSuchElementException.class, "seg c 1;main:hlt;");
        failure(8, -1, NoSuchElementException.class, "");
        failure(7, 0, ArithmeticException.class, "extern e;seg c 1;public main;main:call e;",
                "seg d 1;public e;e:;");
        failure(7, 1, ArithmeticException.class, "seg d 1;public e;e:;public main;main:;",
                "extern e;seg c 1;jmp e;", "extern e;seg c 1;jmp e;");
        SegmentBench idle = Check.modules("extern e;seg c 1;public main;main:hlt;");
        Check.due("an extern without fixup", () -> idle.link(), 1);
    }

    private static void failure(int kind, int place, Class<? extends RuntimeException> want, String... texts) {
        SegmentBench bench = Check.modules(texts);
        String what = "link " + String.join(" | ", java.util.Arrays.asList(texts));
        Check.thrown(what, () -> bench.link(), want);
        Check.failure(what, bench, kind, place);
        Check.due(what + ": no image", () -> bench.count(3), 0);
        Check.thrown(what + ": no load", () -> bench.load(0), IllegalStateException.class);
    }

    /** 5, 6, 8, 9, 7: what is mended lets the next one through. */
    private static void failsInOrder() {
        String full = "space 64;space 64;space 64;space 64;space 64;space 64;space 10;";
        SegmentBench bench = Check.modules("extern e;extern f;seg c 1;" + full + "call e;",
                "seg d 1;public e;e:" + full, "seg d 16;public e;e:" + full);
        order(bench, 5, 2);
        Check.type(bench, "seg d 16;word x;x:" + full + "seg g 1;byte 1;").assemble(2);
        Check.type(bench, "extern e;extern f;seg c 1;" + full + "call f;").assemble(0);
        order(bench, 6, 0);
        Check.type(bench, "extern e;extern f;seg c 1;" + full + "call e;").assemble(0);
        order(bench, 8, -1);
        Check.type(bench, "extern e;seg c 1;public main;main:" + full + "call e;").assemble(0);
        order(bench, 9, -1);
        Check.type(bench, "seg d 1;public e;e:;").assemble(1);
        order(bench, 7, 0);
        Check.type(bench, "extern e;seg d 1;public main;main:call e;").assemble(0);
        Check.due("linked", () -> bench.link(), 417);
        Check.failure("linked", bench, -1, -1);
    }

    private static void order(SegmentBench bench, int kind, int place) {
        Class<? extends RuntimeException> want = kind == 5 ? UnsupportedOperationException.class
                : kind == 9 ? IndexOutOfBoundsException.class
                : kind == 7 ? ArithmeticException.class : NoSuchElementException.class;
        Check.thrown("order " + kind, () -> bench.link(), want);
        Check.failure("order " + kind, bench, kind, place);
    }

    private static void keepsTheImage() {
        SegmentBench bench = Check.modules("seg c 1;public main;main:mov ax,@c;hlt;");
        bench.link();
        bench.load(2);
        Check.type(bench, "seg c 1;byte 5;").assemble(0);
        Check.thrown("no main", () -> bench.link(), NoSuchElementException.class);
        Check.due("bytes stay", () -> bench.count(3), 4);
        Check.due("relocations stay", () -> bench.count(4), 1);
        Check.same("image", Check.image(bench, 0, 4), "184 0 0 244");
        Check.due("the machine goes on", () -> bench.run(9), 0);
        bench.drop(0);
        Check.thrown("none", () -> bench.link(), IllegalStateException.class);
        Check.failure("none tells nothing", bench, 8, -1);
        Check.due("loads still", () -> bench.load(3), 0);
    }

    /** As many fixups and relocations as texts can have. */
    private static void manyFixups() {
        String offsets = "seg c 1;a:word a" + Check.times(",a", 199) + ";";
        String paragraphs = "seg d 1;word @d" + Check.times(",@d", 154) + ";";
        SegmentBench bench = Check.modules(offsets, paragraphs, "seg d 1;public main;main:;");
        Check.due("200 fixups", () -> bench.count(11), 200);
        Check.due("the last", () -> bench.fixup(0, 199, 2), 398);
        Check.due("link", () -> bench.link(), 710);
        Check.due("relocations", () -> bench.count(4), 155);
        Check.due("the last paragraph", () -> bench.image(708), 25);
        Check.due("main", () -> bench.load(9), 310);
        Check.due("its paragraph", () -> bench.memory(9 * 16 + 708), 34);
    }

    private static void limits() {
        String full = "space 64;space 64;space 64;space 64;space 64;space 64;space 16;";
        SegmentBench bench = Check.modules("seg c 1;public main;main:" + full, "seg c 1;" + full, "seg c 1;" + full);
        Check.due("1200", () -> bench.link(), 1200);
        Check.due("the last", () -> bench.image(1199), 0);
        Check.due("loads", () -> bench.load(255), 0);
        Check.type(bench, "seg c 1;space 64;space 64;space 64;space 64;space 64;space 64;space 14;c1:word c1;").assemble(2);
        Check.due("1200 again", () -> bench.link(), 1200);
        Check.same("a fixup at the end", Check.image(bench, 1198, 1200), "174 4");
        Check.type(bench, "seg c 1;byte 1;seg d 1;" + full.substring(0, 54) + "space 15;").assemble(2);
        Check.thrown("1200 and what is between", () -> bench.link(), IndexOutOfBoundsException.class);
        Check.failure("1200 and what is between", bench, 9, -1);
    }
}
