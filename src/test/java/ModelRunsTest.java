import java.util.ArrayList;
import java.util.Collections;
import java.util.HashSet;
import java.util.List;
import java.util.Random;
import java.util.TreeMap;

/**
 * Long mixed runs of 512 calls, each answer compared with a model that keeps its pages in another way:
 * a map that has the held pages alone. The seeds are fixed, so that every run is the same each time.
 */
public final class ModelRunsTest {
    private static final int RUNS = 3000;
    private static final int CALLS = 512;
    private static final int[] ODD_VALUES = {-1, -2, -3, Integer.MIN_VALUE, Integer.MAX_VALUE, 1 << 30, -(1 << 30)};

    private static final class Model {
        private final TreeMap<Integer, List<Integer>> held = new TreeMap<>();

        Model() {
            for (int p = 0; p < 24; p++) {
                held.put(p, Collections.nCopies(4, 0));
            }
        }

        static boolean bad(int p) {
            return p != Math.floorMod(p, 24);
        }

        List<Integer> page(int p) {
            return held.getOrDefault(p, Collections.nCopies(4, 0));
        }

        void put(int p, List<Integer> page) {
            if (page == null) {
                held.remove(p);
            } else {
                held.put(p, page);
            }
        }

        int write(int p, int word, int value) {
            int before = read(p, word);
            if (!bad(p) && word == Math.floorMod(word, 4)) {
                List<Integer> page = new ArrayList<>(page(p));
                page.set(word, value);
                held.put(p, page);
            }
            return before;
        }

        int fill(int p, int value) {
            if (bad(p)) {
                return -1;
            }
            held.put(p, Collections.nCopies(4, value));
            return 0;
        }

        int copy(int from, int to) {
            if (bad(from) || bad(to)) {
                return -1;
            }
            put(to, held.get(from));
            return 0;
        }

        int swap(int a, int b) {
            if (bad(a) || bad(b)) {
                return -1;
            }
            List<Integer> ofA = held.get(a);
            List<Integer> ofB = held.get(b);
            put(a, ofB);
            put(b, ofA);
            return 0;
        }

        int release(int p) {
            return bad(p) ? -1 : held.remove(p) == null ? -3 : 0;
        }

        int read(int p, int word) {
            return bad(p) ? -1 : word != Math.floorMod(word, 4) ? -2 : page(p).get(word);
        }

        boolean same(int a, int b) {
            return !bad(a) && !bad(b) && page(a).equals(page(b));
        }

        int contents() {
            return new HashSet<>(held.values()).size();
        }

        int duplicates() {
            return held.size() - contents();
        }

        int sum(int guest) {
            if (guest < 0 || guest > 2) {
                return 0;
            }
            return held.subMap(guest * 8, guest * 8 + 8).values().stream()
                .flatMap(List::stream).mapToInt(Integer::intValue).sum();
        }

        int plain() {
            return (int) held.values().stream().filter(page -> new HashSet<>(page).size() == 1).count();
        }
    }

    public static void main(String[] args) {
        for (int run = 0; run < RUNS; run++) {
            runOnce(run);
        }
        Due.end();
    }

    private static void runOnce(int run) {
        Random random = new Random(run);
        PageMerger x = new PageMerger(random.nextInt(30) - 5);
        Model model = new Model();
        // Few pages in some runs, so that they meet again and again; all of them in others.
        int pages = 3 + random.nextInt(22);
        for (int i = 0; i < CALLS; i++) {
            oneCall("run " + run + ", call " + i + ": ", random, x, model, pages);
        }
    }

    private static int pickPage(Random random, int pages) {
        if (random.nextInt(30) == 0) {
            return Due.BAD_PAGES[random.nextInt(Due.BAD_PAGES.length)];
        }
        return random.nextInt(4) == 0 ? random.nextInt(24) : 24 - pages + random.nextInt(pages);
    }

    private static int pickWord(Random random) {
        return random.nextInt(30) == 0 ? Due.BAD_WORDS[random.nextInt(Due.BAD_WORDS.length)] : random.nextInt(4);
    }

    private static int pickGuest(Random random) {
        return random.nextInt(15) == 0 ? Due.BAD_GUESTS[random.nextInt(Due.BAD_GUESTS.length)] : random.nextInt(3);
    }

    private static int pickValue(Random random) {
        return random.nextInt(6) == 0 ? ODD_VALUES[random.nextInt(ODD_VALUES.length)] : random.nextInt(3);
    }

    private static void oneCall(String at, Random random, PageMerger x, Model model, int pages) {
        int p = pickPage(random, pages);
        int q = pickPage(random, pages);
        int w = pickWord(random);
        int v = pickValue(random);
        int g = pickGuest(random);
        switch (random.nextInt(16)) {
            case 0, 1, 2 -> Due.due(at + "write(" + p + ", " + w + ", " + v + ")", x.write(p, w, v), model.write(p, w, v));
            case 3 -> Due.due(at + "fill(" + p + ", " + v + ")", x.fill(p, v), model.fill(p, v));
            case 4 -> Due.due(at + "copy(" + p + ", " + q + ")", x.copy(p, q), model.copy(p, q));
            case 5 -> Due.due(at + "swap(" + p + ", " + q + ")", x.swap(p, q), model.swap(p, q));
            case 6 -> Due.due(at + "release(" + p + ")", x.release(p), model.release(p));
            case 7 -> x.scan(random.nextInt(4) == 0 ? random.nextInt() : random.nextInt(25));
            case 8, 9 -> Due.due(at + "read(" + p + ", " + w + ")", x.read(p, w), model.read(p, w));
            case 10 -> Due.due(at + "held(" + p + ")", x.held(p), model.held.containsKey(p));
            case 11 -> Due.due(at + "same(" + p + ", " + q + ")", x.same(p, q), model.same(p, q));
            case 12 -> Due.due(at + "contents()", x.contents(), model.contents());
            case 13 -> Due.due(at + "duplicates()", x.duplicates(), model.duplicates());
            case 14 -> Due.due(at + "sum(" + g + ")", x.sum(g), model.sum(g));
            default -> Due.due(at + "plain()", x.plain(), model.plain());
        }
    }
}
