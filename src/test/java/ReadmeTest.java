/** README.md, "How to use it": its examples answer as it says there. */
public final class ReadmeTest {
    public static void main(String[] args) {
        oneModule();
        twoModules();
        aFailure();
        Check.end();
    }

    private static void oneModule() {
        SegmentBench bench = new SegmentBench();
        String text = "seg c 1;public main;main:mov ax,5;add ax,ax;int 33;hlt;";
        for (int i = 0; i < text.length(); i++) {
            bench.append(text.charAt(i), 1);
        }
        Check.due("assemble", () -> bench.assemble(0), 8);
        Check.due("link", () -> bench.link(), 8);
        Check.due("load", () -> bench.load(16), 0);
        Check.due("run", () -> bench.run(400), 0);
        Check.due("trace", () -> bench.trace(0), 65536 * 33 + 10);
        Check.due("ax", () -> bench.register(0), 10);
    }

    private static void twoModules() {
        SegmentBench bench = new SegmentBench();
        Check.type(bench, "extern twice;extern n;seg c 1;public main;main:mov ax,@n;mov ds,ax;callf twice;int 1;hlt;");
        Check.due("assemble 0", () -> bench.assemble(0), 13);
        Check.type(bench, "seg l 2;public twice;twice:mov ax,[n];add ax,ax;retf;seg d 16;public n;n:word 21;");
        Check.due("assemble 1", () -> bench.assemble(1), 9);
        Check.due("fixups of 0", () -> bench.count(11), 3);
        Check.due("link", () -> bench.link(), 34);
        Check.due("relocations", () -> bench.count(4), 2);
        Check.due("load", () -> bench.load(16), 0);
        Check.due("run", () -> bench.run(400), 0);
        Check.due("trace", () -> bench.trace(0), 65536 + 42);
    }

    private static void aFailure() {
        SegmentBench bench = new SegmentBench();
        Check.type(bench, "seg c 1;mov ax,[bx+bp];");
        Check.thrown("assemble", () -> bench.assemble(0), UnsupportedOperationException.class);
        Check.due("kind", () -> bench.count(1), 1);
        Check.due("place", () -> bench.count(2), 19);
    }
}
