/** Promises 6 (load), 11 (memory) and 12 (register). */
public final class LoadTest {
    public static void main(String[] args) {
        loads();
        wraps();
        clears();
        ranges();
        Check.end();
    }

    private static void loads() {
        SegmentBench bench = Check.modules("seg d 1;byte 1,2,3;word @c,@d;seg c 1;ret;ret;public main;main:hlt;");
        Check.due("link", () -> bench.link(), 19);
        Check.due("load", () -> bench.load(10), 2);
        Check.same("registers", Check.registers(bench, 0, 16), "0 0 0 0 0 0 0 0 10 11 10 10 2 0 0 0");
        int[] want = {1, 2, 3, 11, 0, 10, 0, 0, 0, 0, 0, 0, 0, 0, 0, 0, 195, 195, 244, 0};
        for (int i = 0; i < want.length; i++) {
            int at = 160 + i;
            Check.due("memory " + at, () -> bench.memory(at), want[i]);
        }
        Check.due("before", () -> bench.memory(159), 0);
        Check.due("the image is as it was", () -> bench.image(3), 1);
        Check.due("again", () -> bench.load(0), 2);
        Check.due("memory 3", () -> bench.memory(3), 1);
        Check.due("memory 160", () -> bench.memory(160), 0);
    }

    private static void wraps() {
        SegmentBench bench = Check.modules("seg c 1;public main;main:space 15;word @c;space 16;byte 7;");
        bench.link();
        bench.load(255);
        Check.due("4095", () -> bench.memory(4095), 255);
        Check.due("0", () -> bench.memory(0), 0);
        Check.due("17", () -> bench.memory(17), 7);
        SegmentBench sum = Check.modules("seg c 1;public main;main:word @c;space 64;space 64;space 64;seg d 1;word @d;");
        sum.link();
        sum.load(250);
        Check.due("carried into the second byte", () -> sum.memory((16 * 250 + 208) % 4096), (250 + 13) % 256);
        Check.due("the second byte", () -> sum.memory((16 * 250 + 209) % 4096), 1);
    }

    private static void clears() {
        SegmentBench bench = Check.loaded("seg c 1;public main;main:mov ax,65535;add ax,ax;push ax;int 1;mov es,ax;"
                + "mov [1000],ax;jmp main;", 5);
        bench.run(400);
        Check.due("C", () -> bench.register(13), 1);
        Check.due("load", () -> bench.load(5), 0);
        Check.same("registers", Check.registers(bench, 0, 16), "0 0 0 0 0 0 0 0 5 5 5 5 0 0 0 0");
        Check.due("stack", () -> bench.memory(78), 0);
        Check.due("data", () -> bench.memory(1080), 0);
        Check.due("done", () -> bench.count(5), 0);
        Check.due("ints", () -> bench.count(6), 0);
        Check.thrown("trace", () -> bench.trace(0), IndexOutOfBoundsException.class);
        Check.due("not halted", () -> bench.count(7), 0);
    }

    private static void ranges() {
        SegmentBench bench = new SegmentBench();
        for (int paragraph : new int[] {-1, 256, Integer.MAX_VALUE, Integer.MIN_VALUE}) {
            Check.thrown("load " + paragraph, () -> bench.load(paragraph), IllegalArgumentException.class);
        }
        Check.thrown("load 255", () -> bench.load(255), IllegalStateException.class);
        for (int address : new int[] {-1, 4096, Integer.MAX_VALUE, Integer.MIN_VALUE}) {
            Check.thrown("memory " + address, () -> bench.memory(address), IllegalArgumentException.class);
        }
        for (int register : new int[] {-1, 16, Integer.MAX_VALUE, Integer.MIN_VALUE}) {
            Check.thrown("register " + register, () -> bench.register(register), IllegalArgumentException.class);
        }
    }
}
