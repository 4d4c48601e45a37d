import java.lang.reflect.Constructor;
import java.lang.reflect.Field;
import java.lang.reflect.Method;
import java.lang.reflect.Modifier;
import java.util.Arrays;
import java.util.TreeSet;

/** The public face, and promises 1 (a new object) and 14 (count). */
public final class FaceTest {
    private static final String METHODS = "append(long,int)int assemble(int)int code(int,int,int)int "
            + "count(int)int drop(int)boolean fixup(int,int,int)int image(int)int link()int load(int)int "
            + "memory(int)int register(int)int run(int)int trace(int)int";

    public static void main(String[] args) {
        face();
        newObject();
        counts();
        Check.end();
    }

    private static void face() {
        TreeSet<String> open = new TreeSet<>();
        for (Method method : SegmentBench.class.getDeclaredMethods()) {
            if (!Modifier.isPrivate(method.getModifiers())) {
                StringBuilder types = new StringBuilder();
                for (Class<?> type : method.getParameterTypes()) {
                    types.append(types.length() == 0 ? "" : ",").append(type.getName());
                }
                open.add(method.getName() + "(" + types + ")" + method.getReturnType());
            }
        }
        Check.same("methods", String.join(" ", open), METHODS);
        for (Field field : SegmentBench.class.getDeclaredFields()) {
            Check.same("field " + field.getName(), "" + Modifier.isPrivate(field.getModifiers()), "true");
        }
        Constructor<?>[] constructors = SegmentBench.class.getDeclaredConstructors();
        Check.same("constructors", Arrays.toString(constructors), "[public SegmentBench()]");
        Check.same("final", "" + Modifier.isFinal(SegmentBench.class.getModifiers()), "true");
    }

    private static void newObject() {
        SegmentBench bench = new SegmentBench();
        int[] counts = {0, -1, -1, 0, 0, 0, 0, 1, 0, 0, 0, 0, 0, 0};
        for (int i = 0; i < counts.length; i++) {
            int what = i;
            Check.due("new count " + i, () -> bench.count(what), counts[i]);
        }
        Check.same("new registers", Check.registers(bench, 0, 16), "0 0 0 0 0 0 0 0 0 0 0 0 0 0 0 0");
        for (int from = 0; from < 4096; from += 256) {
            SegmentBench other = new SegmentBench();
            for (int i = from; i < from + 256; i++) {
                int at = i;
                Check.due("new memory " + i, () -> other.memory(at), 0);
            }
        }
        Check.thrown("new image", () -> bench.image(0), IndexOutOfBoundsException.class);
        Check.thrown("new trace", () -> bench.trace(0), IndexOutOfBoundsException.class);
        Check.thrown("new code", () -> bench.code(0, 0, 0), IndexOutOfBoundsException.class);
        Check.thrown("new fixup", () -> bench.fixup(0, 0, 0), IndexOutOfBoundsException.class);
        Check.thrown("new link", () -> bench.link(), IllegalStateException.class);
        Check.thrown("new load", () -> bench.load(0), IllegalStateException.class);
        Check.thrown("new run", () -> bench.run(1), IllegalStateException.class);
    }

    private static void counts() {
        SegmentBench bench = Check.modules("seg c 1;public main;main:int 1;mov ax,@c;seg d 1;hlt;",
                "seg c 1;", "extern e;seg a 1;seg b 1;seg c 1;word e,e;");
        Check.due("segments 0", () -> bench.count(8), 2);
        Check.due("segments 1", () -> bench.count(9), 1);
        Check.due("segments 2", () -> bench.count(10), 3);
        Check.due("fixups 0", () -> bench.count(11), 1);
        Check.due("fixups 1", () -> bench.count(12), 0);
        Check.due("fixups 2", () -> bench.count(13), 2);
        bench.drop(2);
        Check.due("segments of none", () -> bench.count(10), 0);
        Check.due("fixups of none", () -> bench.count(13), 0);
        Check.type(bench, "abc");
        Check.due("text", () -> bench.count(0), 3);
        bench.link();
        Check.due("image", () -> bench.count(3), 17);
        Check.due("relocations", () -> bench.count(4), 1);
        bench.load(1);
        Check.due("not halted", () -> bench.count(7), 0);
        bench.run(2);
        Check.due("done", () -> bench.count(5), 2);
        Check.due("ints", () -> bench.count(6), 1);
        Check.due("undefined", () -> bench.run(5), 2);
        Check.due("undefined is not done", () -> bench.count(5), 2);
        Check.due("halted", () -> bench.count(7), 1);
        bench.load(1);
        Check.due("done since load", () -> bench.count(5), 0);
        Check.due("ints since load", () -> bench.count(6), 0);
        for (int what : new int[] {-1, 14, Integer.MIN_VALUE, Integer.MAX_VALUE}) {
            Check.thrown("count " + what, () -> bench.count(what), IllegalArgumentException.class);
        }
    }
}
