import java.util.NoSuchElementException;
import java.util.Random;
import java.util.Set;

/** LANGUAGE.md, rules 6 and 7: whatever is called, nothing is thrown but by a throw of the class, as declared. */
public final class SoupTest {
    private static final String[] PIECES = {"seg ", "public ", "extern ", "word ", "byte ", "space ", "mov ", "add ", "or ",
        "cmp ", "inc ", "push ", "pop ", "shl ", "neg ", "div ", "mul ", "jmp ", "jz ", "loop ", "call ", "callf ", "ret",
        "retf", "int ", "hlt", "ax", "bx", "bp", "si", "di", "es", "cs", "ds", "a", "b", "c", "main", "x", "1", "16", "64",
        "255", "256", "65535", "65536", ":", ";", ";", ";", ",", "[", "]", "+", "-", "@", "#", " "};
    private static final String[] STATEMENTS = {"seg a 1;", "seg b 2;", "seg c 16;", "public main;", "public x;", "extern e;",
        "extern x;", "main:;", "x:;", "y:;", "mov ax,5;", "mov [bx+x],ax;", "mov ds,[di];", "add [y-1],@a;", "cmp ax,b;",
        "word x,@y,7;", "byte 1,255;", "space 64;", "jmp x;", "jmp e;", "jz y;", "loop main;", "call e;", "callf x;", "ret;",
        "retf;", "int 7;", "hlt;", "push cs;", "pop ss;", "div bx;", "mul [si];", "neg [bp];", "byte 247,59;", "byte 15;"};
    private static final int[] KNOWN = {1, 3, 6, 7, 9, 11, 23, 31, 33, 41, 49, 57, 64, 75, 84, 92, 114, 117, 120, 129, 137,
        139, 140, 142, 154, 184, 188, 195, 199, 203, 205, 209, 226, 232, 233, 235, 244, 247};
    private static final Set<Class<?>> DECLARED = Set.of(IllegalArgumentException.class, IndexOutOfBoundsException.class,
            IllegalStateException.class, UnsupportedOperationException.class, NoSuchElementException.class,
            ArithmeticException.class);

    public static void main(String[] args) {
        Random random = new Random(1);
        for (int i = 0; i < 6000; i++) {
            SegmentBench bench = new SegmentBench();
            for (int call = 0; call < 100; call++) {
                step(bench, random);
            }
        }
        Check.end();
    }

    private static void step(SegmentBench bench, Random random) {
        int call = random.nextInt(20);
        try {
            if (call < 3) {
                Check.type(bench, call == 0 ? soup(random) : call == 1 ? program(random) : codes(random));
                bench.assemble(call == 2 ? 0 : random.nextInt(3));
            } else {
                answer(bench, call, random);
            }
        } catch (RuntimeException e) {
            judge(e);
        }
    }

    private static void answer(SegmentBench bench, int call, Random random) {
        switch (call) {
            case 3:
                bench.assemble(any(random));
                break;
            case 4:
                bench.append(random.nextLong(), any(random));
                break;
            case 5:
                bench.drop(random.nextInt(8) == 0 ? random.nextInt(3) : any(random));
                break;
            case 6:
                bench.link();
                break;
            case 7:
                bench.load(random.nextInt(4) == 0 ? any(random) : random.nextInt(256));
                break;
            case 8:
            case 9:
                bench.run(random.nextInt(402));
                break;
            case 10:
                bench.code(any(random), any(random), any(random));
                break;
            case 11:
                bench.fixup(any(random), any(random), any(random));
                break;
            case 12:
                bench.image(any(random));
                break;
            case 13:
                bench.memory(any(random));
                break;
            case 14:
                bench.register(any(random));
                break;
            case 15:
                bench.trace(any(random));
                break;
            default:
                bench.count(any(random));
                break;
        }
    }

    private static int any(Random random) {
        switch (random.nextInt(4)) {
            case 0:
                return random.nextInt();
            case 1:
                return random.nextInt(600) - 100;
            default:
                return random.nextInt(5) - 1;
        }
    }

    private static String soup(Random random) {
        StringBuilder text = new StringBuilder(random.nextBoolean() ? "seg c 1;" : "");
        for (int i = random.nextInt(30); i >= 0; i--) {
            text.append(PIECES[random.nextInt(PIECES.length)]);
        }
        return text.toString();
    }

    private static String program(Random random) {
        StringBuilder text = new StringBuilder("seg a 1;");
        for (int i = random.nextInt(12); i >= 0; i--) {
            text.append(STATEMENTS[random.nextInt(STATEMENTS.length)]);
        }
        return text.toString();
    }

    /** A module that links, of bytes that the machine may know or not. */
    private static String codes(Random random) {
        StringBuilder text = new StringBuilder("seg a 1;public main;main:byte ");
        text.append(KNOWN[random.nextInt(KNOWN.length)]);
        for (int i = random.nextInt(60); i >= 0; i--) {
            text.append(',').append(random.nextBoolean() ? random.nextInt(256) : KNOWN[random.nextInt(KNOWN.length)]);
        }
        return text.append(';').toString();
    }

    private static void judge(RuntimeException e) {
        StackTraceElement[] from = e.getStackTrace();
        boolean own = from.length == 0 || from[0].getClassName().equals("SegmentBench");
        String text = "" + e.getMessage();
        if (!DECLARED.contains(e.getClass()) || !own || text.equals("/ by zero")) {
            Check.same("thrown", e.toString(), "nothing, or by a throw of the class");
        }
    }
}
