import java.util.ArrayList;
import java.util.List;
import java.util.NoSuchElementException;

/** What the tests share: they compare answers, count the wrong ones, and type texts. */
final class Check {
    interface Call {
        long answer();
    }

    /** Makes an object by the same calls each time, for what is promised ends with the 512th call. */
    interface Maker {
        SegmentBench make();
    }

    interface Step {
        long on(SegmentBench bench);
    }

    private static final int READINGS_OF_ONE = 200;

    private static int wrong = 0;

    private Check() {
    }

    /** The call's answer is want. */
    static void due(String what, Call call, long want) {
        same(what, told(call), Long.toString(want));
    }

    /** The call throws just this exception, by a throw of the class itself. */
    static void thrown(String what, Call call, Class<? extends RuntimeException> want) {
        same(what, told(call), "throws " + want.getSimpleName());
    }

    static void same(String what, String got, String want) {
        if (!got.equals(want)) {
            wrong++;
            System.out.println(what + ": answered " + got + ", due is " + want);
        }
    }

    private static String told(Call call) {
        try {
            return Long.toString(call.answer());
        } catch (RuntimeException e) {
            StackTraceElement[] from = e.getStackTrace();
            boolean own = from.length == 0 || from[0].getClassName().startsWith("SegmentBench");
            return (own ? "throws " : "is thrown by the machine ") + e.getClass().getSimpleName();
        }
    }

    /** Appends a text, eight characters a call. */
    static SegmentBench type(SegmentBench bench, String text) {
        for (int at = 0; at < text.length(); at += 8) {
            String piece = text.substring(at, Math.min(at + 8, text.length()));
            long v = 0;
            for (int i = 0; i < piece.length(); i++) {
                v = 256 * v + piece.charAt(i);
            }
            bench.append(v, piece.length());
        }
        return bench;
    }

    /** A bench with these modules, 0 first; null leaves one out. */
    static SegmentBench modules(String... texts) {
        SegmentBench bench = new SegmentBench();
        for (int m = 0; m < texts.length; m++) {
            if (texts[m] != null) {
                type(bench, texts[m]).assemble(m);
            }
        }
        return bench;
    }

    /** A bench whose one module has been linked and loaded at a paragraph. */
    static SegmentBench loaded(String text, int paragraph) {
        SegmentBench bench = modules(text);
        bench.link();
        bench.load(paragraph);
        return bench;
    }

    /** All bytes of a module's segment, parted by blanks. */
    static String bytes(SegmentBench bench, int module, int segment) {
        StringBuilder all = new StringBuilder();
        for (int i = 0; i < 400; i++) {
            try {
                all.append(i == 0 ? "" : " ").append(bench.code(module, segment, i));
            } catch (IndexOutOfBoundsException e) {
                break;
            }
        }
        return all.toString().trim();
    }

    /** A module's fixups, each as kind/segment/place/about. */
    static String fixups(SegmentBench bench, int module) {
        StringBuilder all = new StringBuilder();
        for (int i = 0; i < bench.count(11 + module); i++) {
            all.append(i == 0 ? "" : " ");
            for (int what = 0; what < 4; what++) {
                all.append(what == 0 ? "" : "/").append(bench.fixup(module, i, what));
            }
        }
        return all.toString();
    }

    /** Bytes from .. end of the image, parted by blanks. */
    static String image(SegmentBench bench, int from, int end) {
        StringBuilder all = new StringBuilder();
        for (int i = from; i < end; i++) {
            all.append(i == from ? "" : " ").append(bench.image(i));
        }
        return all.toString();
    }

    /** The registers from .. end, parted by blanks. */
    static String registers(SegmentBench bench, int from, int end) {
        StringBuilder all = new StringBuilder();
        for (int i = from; i < end; i++) {
            all.append(i == from ? "" : " ").append(bench.register(i));
        }
        return all.toString();
    }

    /** Assembling the text fails with this exception, kind and place. */
    static void fails(String text, Class<? extends RuntimeException> want, int kind, int place) {
        SegmentBench bench = type(new SegmentBench(), text);
        thrown("assemble " + text, () -> bench.assemble(0), want);
        failure("after " + text, bench, kind, place);
        due("text after " + text, () -> bench.count(0), 0);
        due("segments after " + text, () -> bench.count(8), 0);
    }

    static void failure(String what, SegmentBench bench, int kind, int place) {
        due(what + ": kind", () -> bench.count(1), kind);
        due(what + ": place", () -> bench.count(2), place);
    }

    /** The text can't go on at place. */
    static void stops(String text, int place) {
        fails(text, UnsupportedOperationException.class, 1, place);
    }

    /** The first wrong name of the text stands at place. */
    static void wrong(String text, int place) {
        fails(text, NoSuchElementException.class, 2, place);
    }

    static void assembles(String text, int bytes) {
        SegmentBench bench = type(new SegmentBench(), text);
        due("assemble " + text, () -> bench.assemble(0), bytes);
        failure("after " + text, bench, -1, -1);
    }

    /** The text becomes a module, whatever bytes it has. */
    static void isRight(String text) {
        SegmentBench bench = type(new SegmentBench(), text);
        same("assemble " + text, told(bench, x -> Math.min(x.assemble(0), 0)), "0");
        failure("after " + text, bench, -1, -1);
    }

    private static String told(SegmentBench bench, Step step) {
        return told(() -> step.on(bench));
    }

    /** The call throws, and leaves all that can be read as it was, but for these numbers of count. */
    static void changesNothing(String what, Maker maker, Step refused, Class<? extends RuntimeException> want,
            int... but) {
        thrown(what, () -> refused.on(maker.make()), want);
        sameState(what, maker, bench -> told(bench, refused).length(), but);
    }

    /** All that can be read is the same with the step and without it, but for these numbers of count. */
    static void sameState(String what, Maker maker, Step step, int... but) {
        List<Step> readings = readings(but);
        for (int from = 0; from < readings.size(); from += READINGS_OF_ONE) {
            SegmentBench without = maker.make();
            SegmentBench with = maker.make();
            step.on(with);
            for (int i = from; i < Math.min(from + READINGS_OF_ONE, readings.size()); i++) {
                same(what + ": reading " + i, told(with, readings.get(i)), told(without, readings.get(i)));
            }
        }
    }

    private static List<Step> readings(int[] but) {
        List<Step> all = new ArrayList<>();
        for (int i = 0; i < 14; i++) {
            int what = i;
            if (java.util.Arrays.stream(but).noneMatch(n -> n == what)) {
                all.add(x -> x.count(what));
            }
        }
        for (int i = 0; i < 4096; i++) {
            int at = i;
            all.add(x -> x.memory(at));
            if (at <= 1200) {
                all.add(x -> x.image(at));
            }
            if (at <= 30) {
                all.add(x -> x.trace(at));
            }
            if (at < 16) {
                all.add(x -> x.register(at));
            }
        }
        for (int m = 0; m < 3; m++) {
            addModule(all, m);
        }
        return all;
    }

    private static void addModule(List<Step> all, int m) {
        for (int i = 0; i < 40; i++) {
            int at = i;
            for (int s = 0; s < 3; s++) {
                int segment = s;
                all.add(x -> x.code(m, segment, at));
            }
            for (int w = 0; w < 4; w++) {
                int what = w;
                all.add(x -> x.fixup(m, at, what));
            }
        }
    }

    /** Statements of n bytes, all 0. */
    static String space(int n) {
        StringBuilder text = new StringBuilder();
        for (int left = n; left > 0; left -= 64) {
            text.append("space ").append(Math.min(left, 64)).append(';');
        }
        return text.toString();
    }

    static String times(String piece, int n) {
        return piece.repeat(n);
    }

    /** To be called last: ends with 1 if an answer was wrong. */
    static void end() {
        if (wrong > 0) {
            System.out.println(wrong + " wrong");
            System.exit(1);
        }
    }
}
