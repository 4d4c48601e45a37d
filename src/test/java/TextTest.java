/** Promise 2 (append), and that assemble empties the text. */
public final class TextTest {
    public static void main(String[] args) {
        ranges();
        limit();
        order();
        full();
        ends();
        Check.end();
    }

    private static void ranges() {
        SegmentBench bench = new SegmentBench();
        for (int n : new int[] {0, 9, -1, Integer.MAX_VALUE, Integer.MIN_VALUE}) {
            Check.thrown("n " + n, () -> bench.append(0x6161616161616161L, n), IllegalArgumentException.class);
        }
        for (int sign : new int[] {0, 31, 127, 128, 255}) {
            Check.thrown("sign " + sign, () -> bench.append(0x6161L * 65536 + 256 * sign + 97, 4),
                    IllegalArgumentException.class);
        }
        Check.due("nothing came", () -> bench.count(0), 0);
        Check.due("32", () -> bench.append(32, 1), 1);
        Check.due("126", () -> bench.append(126, 1), 2);
        Check.due("higher bytes are left", () -> bench.append(-1L * 65536 + 0x6162, 2), 4);
        Check.thrown("the 8th is looked at", () -> bench.append(0x0161616161616161L, 8),
                IllegalArgumentException.class);
        Check.due("but not for 7", () -> bench.append(0x0161616161616161L, 7), 11);
    }

    private static void limit() {
        SegmentBench bench = Check.type(new SegmentBench(), Check.times(" ", 479));
        Check.thrown("481", () -> bench.append(0x2020, 2), IndexOutOfBoundsException.class);
        Check.thrown("a wrong sign comes first", () -> bench.append(0x2001, 2), IllegalArgumentException.class);
        Check.due("479 stay", () -> bench.count(0), 479);
        Check.due("480", () -> bench.append(0x3b, 1), 480);
        Check.thrown("full", () -> bench.append(0x3b, 1), IndexOutOfBoundsException.class);
        Check.due("assemble", () -> bench.assemble(1), 0);
        Check.due("empty", () -> bench.count(0), 0);
        Check.due("room again", () -> bench.append(0x3b, 1), 1);
    }

    /** Texts of 480 characters that make as many tokens and bytes as they can. */
    private static void full() {
        fits(Check.times(";", 480), 0);
        fits("seg c 1;byte 1" + Check.times(",1", 232) + ";;", 233);
        fits("seg c 1;" + Check.times("or[1],1;", 59), 354);
        fits("seg c 1;" + Check.times("c:or[1],1;", 47) + "  ", -1);
        fits(Check.times("seg a 1;", 60), 0);
        fits("seg a 1;" + Check.times("a ", 236), -2);
        StringBuilder names = new StringBuilder("seg a 1;");
        for (char a = 'b'; a <= 'z'; a++) {
            names.append("seg ").append(a).append(" 1;").append(a).append("1:;");
        }
        fits(names + Check.times(" ", 480 - names.length()), -1);
    }

    /** A word or number ends with the text, whatever stood there before. */
    private static void ends() {
        SegmentBench bench = Check.type(new SegmentBench(), Check.times("6", 480));
        Check.thrown("digits", () -> bench.assemble(0), UnsupportedOperationException.class);
        Check.type(bench, "seg c 1;word 6553");
        Check.thrown("a number", () -> bench.assemble(0), UnsupportedOperationException.class);
        Check.due("its end", () -> bench.count(2), 17);
        Check.type(bench, Check.times(" ", 471) + "seg abcde");
        Check.thrown("a name", () -> bench.assemble(0), UnsupportedOperationException.class);
        Check.due("the text's end", () -> bench.count(2), 480);
        Check.type(bench, Check.times(" ", 470) + "seg c 1655");
        Check.thrown("an align", () -> bench.assemble(0), UnsupportedOperationException.class);
        Check.due("its place", () -> bench.count(2), 476);
    }

    /** -1: a name is wrong; -2: the syntax is. */
    private static void fits(String text, int want) {
        SegmentBench bench = Check.type(new SegmentBench(), text);
        Check.due("480", () -> bench.count(0), 480);
        if (want >= 0) {
            Check.due("bytes of " + text, () -> bench.assemble(0), want);
        } else {
            Check.thrown("assemble " + text, () -> bench.assemble(0), want == -1
                    ? java.util.NoSuchElementException.class : UnsupportedOperationException.class);
        }
    }

    private static void order() {
        SegmentBench bench = new SegmentBench();
        bench.append(0x7365672063203136L, 8);
        bench.append(0x3b6279746520L, 6);
        bench.append(0x3120323bL, 2);
        bench.append(0x31372cL, 3);
        bench.append(0x333bL, 2);
        Check.thrown("2; is no list", () -> bench.assemble(0), UnsupportedOperationException.class);
        Check.due("place of the second number", () -> bench.count(2), 16);
        Check.thrown("module -1", () -> bench.assemble(-1), IllegalArgumentException.class);
        Check.type(bench, "seg c 1;byte 17,3;");
        Check.thrown("module 3", () -> bench.assemble(3), IllegalArgumentException.class);
        Check.due("the text stays", () -> bench.count(0), 18);
        Check.due("kind stays", () -> bench.count(1), 1);
        Check.due("assemble", () -> bench.assemble(2), 2);
        Check.same("bytes", Check.bytes(bench, 2, 0), "17 3");
    }
}
