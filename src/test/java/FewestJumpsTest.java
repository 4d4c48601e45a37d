import java.util.ArrayList;
import java.util.List;
import java.util.Random;

/**
 * Terms, sizing: "as few others as can be so that each other one's D is -128 .. 127". Random texts of labels,
 * jumps and spaces, each held against all the ways to choose which of its jumps are near.
 */
public final class FewestJumpsTest {
    private static final int TEXTS = 3000;
    private static final int MOST_JUMPS = 7;
    private static final int MOST_BYTES = 400;

    /** What the text has, in order: a label (its number), a jump (to a label), or a space (its bytes). */
    private static final class Item {
        final char kind;
        final int number;

        Item(char kind, int number) {
            this.kind = kind;
            this.number = number;
        }

        String text() {
            switch (kind) {
                case 'l':
                    return "l" + number + ":;";
                case 'j':
                    return "jmp l" + number + ";";
                default:
                    return "space " + number + ";";
            }
        }
    }

    public static void main(String[] args) {
        Random random = new Random(7);
        int[] byNear = new int[MOST_JUMPS + 1];
        for (int i = 0; i < TEXTS; i++) {
            byNear[judge(items(random))]++;
        }
        // A text whose jumps are all short or all near would say little about the fewest.
        for (int near = 1; near <= 4; near++) {
            Check.same("texts with " + near + " near jumps", "" + (byNear[near] > 20), "true");
        }
        Check.end();
    }

    private static List<Item> items(Random random) {
        int labels = 1 + random.nextInt(4);
        int jumps = 1 + random.nextInt(MOST_JUMPS);
        List<Item> all = new ArrayList<>();
        for (int i = 0; i < labels; i++) {
            all.add(new Item('l', i));
        }
        for (int i = 0; i < jumps; i++) {
            all.add(random.nextInt(all.size() + 1), new Item('j', random.nextInt(labels)));
        }
        // Sums about 127, where one byte more or less is what counts.
        int[] spaces = {61 + random.nextInt(4), 50 + random.nextInt(15), random.nextInt(8), random.nextInt(65),
            random.nextInt(65)};
        for (int space : spaces) {
            all.add(random.nextInt(all.size() + 1), new Item('s', space));
        }
        return all;
    }

    /** Holds the class against the fewest near jumps, which it answers. */
    private static int judge(List<Item> items) {
        StringBuilder text = new StringBuilder("seg c 1;");
        int jumps = 0;
        for (Item item : items) {
            text.append(item.text());
            jumps += item.kind == 'j' ? 1 : 0;
        }
        int fewest = fewest(items, jumps);
        List<Integer> want = bytes(items, fewest);
        SegmentBench bench = Check.type(new SegmentBench(), text.toString());
        if (want.size() > MOST_BYTES) {
            Check.thrown("assemble " + text, () -> bench.assemble(0), IndexOutOfBoundsException.class);
        } else {
            Check.due("assemble " + text, () -> bench.assemble(0), want.size());
            Check.same("bytes of " + text, Check.bytes(bench, 0, 0), want.toString().replaceAll("[\\[\\],]", ""));
        }
        return Integer.bitCount(fewest);
    }

    /** The set of near jumps, a bit for each, with the fewest of all that will do. */
    private static int fewest(List<Item> items, int jumps) {
        int best = (1 << jumps) - 1;
        for (int near = 0; near < 1 << jumps; near++) {
            if (Integer.bitCount(near) < Integer.bitCount(best) && bytes(items, near) != null) {
                best = near;
            }
        }
        return best;
    }

    /** The bytes with these jumps near, or null if another one's D is not -128 .. 127. */
    private static List<Integer> bytes(List<Item> items, int near) {
        int[] labels = new int[items.size()];
        int jump = 0;
        int at = 0;
        for (Item item : items) {
            if (item.kind == 'l') {
                labels[item.number] = at;
            }
            at += item.kind == 'l' ? 0 : item.kind == 's' ? item.number : 2 + (near >> jump & 1);
            jump += item.kind == 'j' ? 1 : 0;
        }
        List<Integer> all = new ArrayList<>();
        jump = 0;
        for (Item item : items) {
            if (item.kind == 's') {
                all.addAll(java.util.Collections.nCopies(item.number, 0));
            } else if (item.kind == 'j') {
                boolean isNear = (near >> jump & 1) == 1;
                int d = labels[item.number] - all.size() - (isNear ? 3 : 2);
                if (!isNear && (d < -128 || d > 127)) {
                    return null;
                }
                all.add(isNear ? 233 : 235);
                all.add(d & 255);
                if (isNear) {
                    all.add(d >> 8 & 255);
                }
                jump++;
            }
        }
        return all;
    }
}
