import java.util.ArrayList;
import java.util.List;
import java.util.function.Function;

/** What the tests share: comparing an answer with the one that is due, and all that can be seen of an object. */
final class Due {
    static final int[] BAD_PAGES = {-1, 24, -2, 25, -24, 96, Integer.MIN_VALUE, Integer.MAX_VALUE, 1 << 30};
    static final int[] BAD_WORDS = {-1, 4, -2, 5, -4, 96, Integer.MIN_VALUE, Integer.MAX_VALUE, 1 << 30};
    static final int[] BAD_GUESTS = {-1, 3, -2, 4, 24, Integer.MIN_VALUE, Integer.MAX_VALUE, 1 << 27, 1 << 30};
    static final int[] EDGE_PAGES = {0, 1, 7, 8, 15, 16, 22, 23};

    /**
     * Ways to look at an object, each for an object of its own. Two of them ask nothing: an asking call that
     * changes something would do so in both of two objects that are compared, and hide what it does.
     */
    static final List<Function<PageMerger, List<Integer>>> LOOKS = List.of(Due::answers, Due::releases, Due::writes);

    private static int wrong = 0;
    private static int asked = 0;

    private Due() {
    }

    static void due(String call, Object got, Object want) {
        asked++;
        if (!got.equals(want)) {
            wrong++;
            System.out.println(call + " answered " + got + ", due is " + want);
        }
    }

    /** Everything that asking tells: the words, held, the three counts, the sums. 126 calls. */
    static List<Integer> seen(PageMerger x) {
        List<Integer> all = new ArrayList<>();
        for (int p = 0; p < 24; p++) {
            for (int w = 0; w < 4; w++) {
                all.add(x.read(p, w));
            }
            all.add(x.held(p) ? 1 : 0);
        }
        all.add(x.contents());
        all.add(x.duplicates());
        all.add(x.plain());
        for (int guest = 0; guest < 3; guest++) {
            all.add(x.sum(guest));
        }
        return all;
    }

    /** All that can be seen, then a run of changing calls with their answers, and all that can be seen again. 289 calls. */
    private static List<Integer> answers(PageMerger x) {
        List<Integer> all = seen(x);
        for (int p = 0; p < 24; p++) {
            all.add(x.same(p, (p + 5) % 24) ? 1 : 0);
        }
        all.add(x.write(3, 1, 8));
        all.add(x.release(20));
        all.add(x.copy(20, 0));
        all.add(x.release(0));
        all.add(x.swap(0, 23));
        all.add(x.fill(7, -1));
        all.add(x.write(7, 4, 1));
        all.add(x.write(24, 0, 1));
        all.add(x.copy(7, 16));
        all.add(x.write(16, 3, 2));
        all.add(x.release(11));
        all.add(x.release(11));
        all.add(x.write(11, 0, 0));
        all.addAll(seen(x));
        return all;
    }

    /** Which pages are held, as release tells it. */
    private static List<Integer> releases(PageMerger x) {
        List<Integer> all = new ArrayList<>();
        for (int p = 0; p < 24; p++) {
            all.add(x.release(p));
        }
        return all;
    }

    /** All words, as write tells them. */
    private static List<Integer> writes(PageMerger x) {
        List<Integer> all = new ArrayList<>();
        for (int p = 0; p < 24; p++) {
            for (int w = 0; w < 4; w++) {
                all.add(x.write(p, w, 0));
            }
        }
        return all;
    }

    static void dueWords(String when, PageMerger x, int p, int... want) {
        for (int w = 0; w < 4; w++) {
            due(when + ": read(" + p + ", " + w + ")", x.read(p, w), want[w]);
        }
    }

    static void writeWords(PageMerger x, int p, int... values) {
        for (int w = 0; w < 4; w++) {
            x.write(p, w, values[w]);
        }
    }

    /** An object in which no two pages are alike but the released ones (3 and 20) and the page of zeros (5). */
    static PageMerger mixed() {
        PageMerger x = new PageMerger(6);
        for (int p = 0; p < 24; p++) {
            if (p != 5) {
                x.write(p, p % 4, p + 100);
            }
        }
        x.release(3);
        x.release(20);
        return x;
    }

    static void end() {
        System.out.println(asked + " answers looked at, " + wrong + " not as due");
        if (wrong != 0 || asked == 0) {
            System.exit(1);
        }
    }
}
