/** Promise 3 (assemble): the sizing of jumps, and kinds 3 and 4. */
public final class SizingTest {
    public static void main(String[] args) {
        edges();
        chains();
        others();
        tooFar();
        tooMany();
        Check.end();
    }

    private static void size(String text, int bytes) {
        SegmentBench bench = Check.type(new SegmentBench(), "seg c 1;" + text);
        Check.due("size of " + text, () -> bench.assemble(0), bytes);
    }

    private static void edges() {
        size("jmp x;" + Check.space(127) + "x:;", 129);
        size("jmp x;" + Check.space(128) + "x:;", 131);
        size("x:" + Check.space(126) + "jmp x;", 128);
        size("x:" + Check.space(127) + "jmp x;", 130);
        SegmentBench back = Check.modules("seg c 1;x:" + Check.space(127) + "jmp x;");
        Check.due("near back", () -> back.code(0, 0, 127), 233);
        Check.due("its low byte", () -> back.code(0, 0, 128), 126);
        Check.due("its high byte", () -> back.code(0, 0, 129), 255);
        SegmentBench on = Check.modules("seg c 1;jmp x;" + Check.space(127) + "x:;");
        Check.due("short on", () -> on.code(0, 0, 0), 235);
        Check.due("its byte", () -> on.code(0, 0, 1), 127);
    }

    /** One that grows pushes another out of reach, and that one a third. */
    private static void chains() {
        size("jmp a;jmp b;jmp c1;" + Check.space(123) + "a:;" + Check.space(1) + "b:;c1:;", 130);
        size("jmp a;jmp b;jmp c1;" + Check.space(124) + "a:;" + Check.space(2) + "b:;" + Check.space(2) + "c1:;", 137);
        size("a:jmp b;" + Check.space(125) + "b:jmp a;", 130);
        size("a:jmp b;" + Check.space(124) + "b:jmp a;", 128);
        size("a:jmp b;" + Check.space(126) + "b:jmp a;", 131);
        size("a:jmp b;" + Check.space(128) + "b:jmp a;", 134);
        SegmentBench two = Check.modules("seg c 1;jmp x;seg d 1;" + Check.space(200) + "seg c 1;x:;");
        Check.same("another segment is not between", Check.bytes(two, 0, 0), "235 0");
    }

    /** Externs are near, calls have three bytes, and both count for others. */
    private static void others() {
        size("extern e;jmp x;jmp e;" + Check.space(124) + "x:;", 129);
        size("extern e;jmp x;jmp e;" + Check.space(125) + "x:;", 131);
        size("jmp x;call x;" + Check.space(125) + "x:;", 131);
        size("jmp x;callf x;" + Check.space(122) + "x:;", 129);
    }

    private static void tooFar() {
        size("jz x;" + Check.space(127) + "x:;", 129);
        size("x:" + Check.space(126) + "loop x;", 128);
        far("jz x;" + Check.space(128) + "x:;", 8);
        far("x:" + Check.space(127) + " loop x;", 29);
        far("jz y;js x;y:jc x;" + Check.space(128) + "x:;", 13);
        far("a:jnz x;jmp y;" + Check.space(125) + "x:;" + Check.space(64) + "y:;", 10);
        size("a:jnz x;jmp y;" + Check.space(125) + "x:;y:;", 129);
    }

    private static void far(String text, int place) {
        Check.fails("seg c 1;" + text, ArithmeticException.class, 3, place);
    }

    private static void tooMany() {
        size(Check.space(400), 400);
        many("seg c 1;" + Check.space(401));
        many("seg c 1;" + Check.space(200) + "seg d 1;" + Check.space(201));
        many("seg c 1;x:" + Check.space(399) + "jmp x;");
        many("seg c 1;jz x;" + Check.space(400) + "x:;");
        many("seg c 1;" + Check.times("space 64;", 52));
        SegmentBench bench = Check.modules("seg c 1;byte 7;");
        Check.type(bench, "seg c 1;" + Check.space(401));
        Check.thrown("401", () -> bench.assemble(0), IndexOutOfBoundsException.class);
        Check.same("the module stays", Check.bytes(bench, 0, 0), "7");
    }

    private static void many(String text) {
        Check.fails(text, IndexOutOfBoundsException.class, 4, -1);
    }
}
