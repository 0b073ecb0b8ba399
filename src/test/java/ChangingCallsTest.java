import java.util.List;

/** Promises 2 to 7: write, fill, copy, swap, release, scan. */
public final class ChangingCallsTest {
    private static final int[] VALUES = {0, 1, -1, -2, -3, 7, Integer.MIN_VALUE, Integer.MAX_VALUE};

    public static void main(String[] args) {
        writeAnswersTheWordBefore();
        writeTouchesOneWord();
        writeHoldsAReleasedPage();
        writeRefusesABadPage();
        writeRefusesABadWord();
        fillSetsAllFour();
        fillHoldsFromThenOn();
        fillRefuses();
        copyTakesWordsAndHeld();
        copyOfEveryPageToEveryPage();
        copyRefuses();
        swapExchanges();
        swapOfEveryPair();
        swapRefuses();
        releaseGivesUp();
        releaseRefusesABadPage();
        releaseTellsReleased();
        scanChangesNothing();
        Due.end();
    }

    private static void writeAnswersTheWordBefore() {
        for (int p : Due.EDGE_PAGES) {
            for (int w = 0; w < 4; w++) {
                PageMerger x = new PageMerger(4);
                int before = 0;
                for (int value : VALUES) {
                    String call = "write(" + p + ", " + w + ", " + value + ")";
                    Due.due(call, x.write(p, w, value), before);
                    Due.due(call + ": read", x.read(p, w), value);
                    before = value;
                }
            }
        }
    }

    private static void writeTouchesOneWord() {
        for (int p = 0; p < 24; p++) {
            for (int w = 0; w < 4; w++) {
                PageMerger x = new PageMerger(4);
                x.write(p, w, 9);
                for (int q = 0; q < 24; q++) {
                    for (int v = 0; v < 4; v++) {
                        Due.due("write(" + p + ", " + w + ", 9): read(" + q + ", " + v + ")",
                            x.read(q, v), q == p && v == w ? 9 : 0);
                    }
                }
            }
        }
    }

    private static void writeHoldsAReleasedPage() {
        for (int p : Due.EDGE_PAGES) {
            for (int value : VALUES) {
                PageMerger x = new PageMerger(4);
                Due.writeWords(x, p, 1, 2, 3, 4);
                x.release(p);
                String call = "write(" + p + ", 2, " + value + ") on a released page";
                Due.due(call, x.write(p, 2, value), 0);
                Due.due(call + ": held", x.held(p), true);
                Due.dueWords(call, x, p, 0, 0, value, 0);
                Due.due(call + ": release", x.release(p), 0);
                Due.dueWords(call + ", released", x, p, 0, 0, 0, 0);
            }
        }
    }

    private static void writeRefusesABadPage() {
        for (int bad : Due.BAD_PAGES) {
            PageMerger x = Due.mixed();
            List<Integer> before = Due.seen(x);
            for (int w = 0; w < 4; w++) {
                Due.due("write(" + bad + ", " + w + ", 5)", x.write(bad, w, 5), PageMerger.BAD_PAGE);
            }
            Due.due("write to page " + bad + ": all", Due.seen(x), before);
        }
    }

    private static void writeRefusesABadWord() {
        for (int bad : Due.BAD_WORDS) {
            PageMerger x = Due.mixed();
            List<Integer> before = Due.seen(x);
            for (int p = 0; p < 24; p++) {
                Due.due("write(" + p + ", " + bad + ", 5)", x.write(p, bad, 5), PageMerger.BAD_WORD);
            }
            Due.due("write with word " + bad + ": all", Due.seen(x), before);
        }
    }

    private static void fillSetsAllFour() {
        for (int p : Due.EDGE_PAGES) {
            for (int value : VALUES) {
                PageMerger x = Due.mixed();
                String call = "fill(" + p + ", " + value + ")";
                int next = (p + 1) % 24;
                int[] wordsOfNext = {x.read(next, 0), x.read(next, 1), x.read(next, 2), x.read(next, 3)};
                Due.due(call, x.fill(p, value), 0);
                Due.dueWords(call, x, p, value, value, value, value);
                Due.dueWords(call + ", the next page", x, next, wordsOfNext);
            }
        }
    }

    private static void fillHoldsFromThenOn() {
        for (int p = 0; p < 24; p++) {
            for (int value : VALUES) {
                PageMerger x = Due.mixed();
                String call = "fill(" + p + ", " + value + ")";
                x.fill(p, value);
                Due.due(call + ": held", x.held(p), true);
                Due.due(call + ": release", x.release(p), 0);
                Due.due(call + " on a released page", x.fill(p, value), 0);
                Due.dueWords(call + " on a released page", x, p, value, value, value, value);
                Due.due(call + " on a released page: held", x.held(p), true);
                x.write((p + 1) % 24, 0, 1);
                x.release((p + 1) % 24);
                Due.due(call + " on a released page, later: held", x.held(p), true);
            }
        }
    }

    private static void fillRefuses() {
        for (int bad : Due.BAD_PAGES) {
            PageMerger x = Due.mixed();
            List<Integer> before = Due.seen(x);
            Due.due("fill(" + bad + ", 5)", x.fill(bad, 5), PageMerger.BAD_PAGE);
            Due.due("fill(" + bad + ", 5): all", Due.seen(x), before);
        }
    }

    private static void copyTakesWordsAndHeld() {
        PageMerger x = new PageMerger(4);
        Due.writeWords(x, 0, 1, -2, 3, Integer.MIN_VALUE);
        Due.due("copy(0, 23)", x.copy(0, 23), 0);
        Due.dueWords("copy(0, 23)", x, 23, 1, -2, 3, Integer.MIN_VALUE);
        Due.dueWords("copy(0, 23), its source", x, 0, 1, -2, 3, Integer.MIN_VALUE);
        x.write(23, 1, 50);
        Due.dueWords("a write to the copy", x, 0, 1, -2, 3, Integer.MIN_VALUE);
        x.write(0, 0, 60);
        Due.dueWords("a write to the source", x, 23, 1, 50, 3, Integer.MIN_VALUE);

        x.release(7);
        Due.due("copy of a released page", x.copy(7, 0), 0);
        Due.due("copy of a released page: held(0)", x.held(0), false);
        Due.due("copy of a released page: held(7)", x.held(7), false);
        Due.dueWords("copy of a released page", x, 0, 0, 0, 0, 0);
        Due.due("copy of a released page: release(0)", x.release(0), PageMerger.RELEASED);

        Due.due("copy onto a released page", x.copy(23, 7), 0);
        Due.due("copy onto a released page: held(7)", x.held(7), true);
        Due.dueWords("copy onto a released page", x, 7, 1, 50, 3, Integer.MIN_VALUE);

        PageMerger y = Due.mixed();
        List<Integer> before = Due.seen(y);
        Due.due("copy(9, 9)", y.copy(9, 9), 0);
        Due.due("copy(20, 20), released", y.copy(20, 20), 0);
        Due.due("copy of a page to itself: all", Due.seen(y), before);
    }

    /** In each of the four: both held, the one released, the other released, both released. */
    private static void copyOfEveryPageToEveryPage() {
        for (int from = 0; from < 24; from++) {
            for (int to = 0; to < 24; to++) {
                for (int released = 0; released < 4; released++) {
                    PageMerger x = twoReleased(from, to, released);
                    List<Integer> want = pagesOf(x);
                    for (int i = 0; i < 5; i++) {
                        want.set(to * 5 + i, want.get(from * 5 + i));
                    }
                    String call = "copy(" + from + ", " + to + "), released " + released;
                    Due.due(call, x.copy(from, to), 0);
                    Due.due(call + ": all pages", pagesOf(x), want);
                    Due.due(call + ": same", x.same(from, to), true);
                }
            }
        }
    }

    /** All pages different and held, but 'a' if released has the bit 1, and 'b' if it has the bit 2. */
    private static PageMerger twoReleased(int a, int b, int released) {
        PageMerger x = new PageMerger(4);
        for (int p = 0; p < 24; p++) {
            Due.writeWords(x, p, p + 1, p + 30, -p, p * p);
        }
        if ((released & 1) != 0) {
            x.release(a);
        }
        if ((released & 2) != 0) {
            x.release(b);
        }
        return x;
    }

    /** Five numbers for each page: its words, and 1 if it is held. */
    private static List<Integer> pagesOf(PageMerger x) {
        return Due.seen(x).subList(0, 24 * 5);
    }

    private static void copyRefuses() {
        for (int bad : Due.BAD_PAGES) {
            PageMerger x = Due.mixed();
            List<Integer> before = Due.seen(x);
            for (int p = 0; p < 24; p++) {
                Due.due("copy(" + bad + ", " + p + ")", x.copy(bad, p), PageMerger.BAD_PAGE);
                Due.due("copy(" + p + ", " + bad + ")", x.copy(p, bad), PageMerger.BAD_PAGE);
            }
            Due.due("copy(" + bad + ", " + bad + ")", x.copy(bad, bad), PageMerger.BAD_PAGE);
            Due.due("copy with " + bad + ": all", Due.seen(x), before);
        }
    }

    private static void swapExchanges() {
        PageMerger x = new PageMerger(4);
        Due.writeWords(x, 0, 1, 2, 3, 4);
        Due.writeWords(x, 23, 5, 6, 7, 8);
        Due.due("swap(0, 23)", x.swap(0, 23), 0);
        Due.dueWords("swap(0, 23)", x, 0, 5, 6, 7, 8);
        Due.dueWords("swap(0, 23)", x, 23, 1, 2, 3, 4);
        Due.due("swap(0, 23): held(0)", x.held(0), true);
        Due.due("swap(0, 23): held(23)", x.held(23), true);

        for (int[] pair : new int[][] {{0, 8}, {8, 0}}) {
            PageMerger y = new PageMerger(4);
            Due.writeWords(y, 0, 1, 2, 3, 4);
            y.release(8);
            String call = "swap(" + pair[0] + ", " + pair[1] + "), 8 released";
            Due.due(call, y.swap(pair[0], pair[1]), 0);
            Due.due(call + ": held(0)", y.held(0), false);
            Due.due(call + ": held(8)", y.held(8), true);
            Due.dueWords(call, y, 0, 0, 0, 0, 0);
            Due.dueWords(call, y, 8, 1, 2, 3, 4);
        }

        PageMerger z = Due.mixed();
        List<Integer> before = Due.seen(z);
        Due.due("swap(9, 9)", z.swap(9, 9), 0);
        Due.due("swap(20, 20), released", z.swap(20, 20), 0);
        Due.due("swap(3, 20), both released", z.swap(3, 20), 0);
        Due.due("swaps that exchange nothing: all", Due.seen(z), before);
    }

    private static void swapOfEveryPair() {
        for (int a = 0; a < 24; a++) {
            for (int b = 0; b < 24; b++) {
                for (int released = 0; released < 4; released++) {
                    PageMerger x = twoReleased(a, b, released);
                    List<Integer> want = pagesOf(x);
                    for (int i = 0; i < 5; i++) {
                        want.set(b * 5 + i, want.set(a * 5 + i, want.get(b * 5 + i)));
                    }
                    String call = "swap(" + a + ", " + b + "), released " + released;
                    Due.due(call, x.swap(a, b), 0);
                    Due.due(call + ": all pages", pagesOf(x), want);
                }
            }
        }
    }

    private static void swapRefuses() {
        for (int bad : Due.BAD_PAGES) {
            PageMerger x = Due.mixed();
            List<Integer> before = Due.seen(x);
            for (int p = 0; p < 24; p++) {
                Due.due("swap(" + bad + ", " + p + ")", x.swap(bad, p), PageMerger.BAD_PAGE);
                Due.due("swap(" + p + ", " + bad + ")", x.swap(p, bad), PageMerger.BAD_PAGE);
            }
            Due.due("swap(" + bad + ", " + bad + ")", x.swap(bad, bad), PageMerger.BAD_PAGE);
            Due.due("swap with " + bad + ": all", Due.seen(x), before);
        }
    }

    private static void releaseGivesUp() {
        for (int p : Due.EDGE_PAGES) {
            PageMerger x = new PageMerger(4);
            Due.writeWords(x, p, 1, 2, 3, 4);
            String call = "release(" + p + ")";
            Due.due(call, x.release(p), 0);
            Due.due(call + ": held", x.held(p), false);
            Due.dueWords(call, x, p, 0, 0, 0, 0);
            Due.due(call + ": sum", x.sum(p / 8), 0);
            Due.due(call + ": plain", x.plain(), 23);
            Due.due(call + " again", x.release(p), PageMerger.RELEASED);
            Due.due(call + " again: held", x.held(p), false);
            for (int q = 0; q < 24; q++) {
                Due.due(call + ": held(" + q + ")", x.held(q), q != p);
            }
        }
    }

    private static void releaseRefusesABadPage() {
        for (int bad : Due.BAD_PAGES) {
            PageMerger x = Due.mixed();
            List<Integer> before = Due.seen(x);
            Due.due("release(" + bad + ")", x.release(bad), PageMerger.BAD_PAGE);
            Due.due("release(" + bad + ") again", x.release(bad), PageMerger.BAD_PAGE);
            Due.due("release(" + bad + "): all", Due.seen(x), before);
        }
    }

    /** Released by itself, by a copy, or by a swap; and no longer so when it was written, filled or copied to. */
    private static void releaseTellsReleased() {
        for (int p = 0; p < 24; p++) {
            int other = (p + 7) % 24;
            PageMerger x = new PageMerger(4);
            x.release(p);
            List<Integer> before = Due.seen(x);
            Due.due("release(" + p + ") again", x.release(p), PageMerger.RELEASED);
            Due.due("release(" + p + ") again: all", Due.seen(x), before);
            x.copy(p, other);
            Due.due("release of a copy of a released page", x.release(other), PageMerger.RELEASED);
            x.write(p, 0, 0);
            x.swap(p, other);
            Due.due("release(" + p + ") after a swap with a released page", x.release(p), PageMerger.RELEASED);
            Due.due("release(" + other + ") after a swap with a held page", x.release(other), 0);
            x.fill(p, 0);
            Due.due("release(" + p + ") after a fill", x.release(p), 0);
            x.copy((p + 1) % 24, p);
            Due.due("release(" + p + ") after a copy of a held page to it", x.release(p), 0);
        }
    }

    private static void scanChangesNothing() {
        for (int n : new int[] {0, 1, 4, 16, 23, 24, 25, 1000, -1, -24, Integer.MIN_VALUE, Integer.MAX_VALUE}) {
            PageMerger x = Due.mixed();
            x.copy(2, 14);
            x.copy(2, 22);
            List<Integer> before = Due.seen(x);
            x.scan(n);
            x.scan(n);
            Due.due("scan(" + n + "): all", Due.seen(x), before);
            x.write(14, 0, 77);
            Due.due("scan(" + n + "), then a write to one of three alike: read(2, 0)", x.read(2, 0), 0);
            Due.due("scan(" + n + "), then a write to one of three alike: read(22, 0)", x.read(22, 0), 0);
            Due.due("scan(" + n + "): release(3)", x.release(3), PageMerger.RELEASED);
        }
    }
}
