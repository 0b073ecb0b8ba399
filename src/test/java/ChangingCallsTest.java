import java.util.List;

/** Promises 2 to 7: write, fill, copy, swap, release, scan. */
public final class ChangingCallsTest {
    private static final int[] VALUES = {0, 1, -1, -2, -3, 7, Integer.MIN_VALUE, Integer.MAX_VALUE};

    public static void main(String[] args) {
        writeAnswersTheWordBefore();
        writeTouchesOneWord();
        writeHoldsAReleasedPage();
        writeRefuses();
        fillSetsAllFour();
        fillRefuses();
        copyTakesWordsAndHeld();
        copyRefuses();
        swapExchanges();
        swapRefuses();
        releaseGivesUp();
        releaseRefuses();
        scanChangesNothing();
        Due.end();
    }

    private static void writeAnswersTheWordBefore() {
        for (int p : Due.EDGE_PAGES) {
            for (int w = 0; w < 4; w++) {
                PageMerger x = new PageMerger(4);
                int before = 0;
                for (int value : VALUES) {
                    String call = "write(" + p + ", " + w + ", " + value + ")";
                    Due.due(call, x.write(p, w, value), before);
                    Due.due(call + ": read", x.read(p, w), value);
                    before = value;
                }
            }
        }
    }

    private static void writeTouchesOneWord() {
        for (int p = 0; p < 24; p++) {
            for (int w = 0; w < 4; w++) {
                PageMerger x = new PageMerger(4);
                x.write(p, w, 9);
                for (int q = 0; q < 24; q++) {
                    for (int v = 0; v < 4; v++) {
                        Due.due("write(" + p + ", " + w + ", 9): read(" + q + ", " + v + ")",
                            x.read(q, v), q == p && v == w ? 9 : 0);
                    }
                }
            }
        }
    }

    private static void writeHoldsAReleasedPage() {
        for (int p : Due.EDGE_PAGES) {
            for (int value : VALUES) {
                PageMerger x = new PageMerger(4);
                Due.writeWords(x, p, 1, 2, 3, 4);
                x.release(p);
                String call = "write(" + p + ", 2, " + value + ") on a released page";
                Due.due(call, x.write(p, 2, value), 0);
                Due.due(call + ": held", x.held(p), true);
                Due.dueWords(call, x, p, 0, 0, value, 0);
                Due.due(call + ": release", x.release(p), 0);
                Due.dueWords(call + ", released", x, p, 0, 0, 0, 0);
            }
        }
    }

    private static void writeRefuses() {
        for (int bad : Due.BAD_PAGES) {
            PageMerger x = Due.mixed();
            List<Integer> before = Due.seen(x);
            String call = "write(" + bad + ", 1, 5)";
            Due.due(call, x.write(bad, 1, 5), PageMerger.BAD_PAGE);
            Due.due(call + ": all", Due.seen(x), before);
        }
        for (int bad : Due.BAD_WORDS) {
            PageMerger x = Due.mixed();
            List<Integer> before = Due.seen(x);
            for (int p : new int[] {0, 3, 10, 20, 23}) {
                Due.due("write(" + p + ", " + bad + ", 5)", x.write(p, bad, 5), PageMerger.BAD_WORD);
            }
            Due.due("write with word " + bad + ": all", Due.seen(x), before);
        }
    }

    private static void fillSetsAllFour() {
        for (int p : Due.EDGE_PAGES) {
            for (int value : VALUES) {
                PageMerger x = Due.mixed();
                String call = "fill(" + p + ", " + value + ")";
                int next = (p + 1) % 24;
                int[] wordsOfNext = {x.read(next, 0), x.read(next, 1), x.read(next, 2), x.read(next, 3)};
                Due.due(call, x.fill(p, value), 0);
                Due.dueWords(call, x, p, value, value, value, value);
                Due.dueWords(call + ", the next page", x, next, wordsOfNext);
                Due.due(call + ": held", x.held(p), true);
                x.release(p);
                Due.due(call + " on a released page", x.fill(p, value), 0);
                Due.due(call + " on a released page: held", x.held(p), true);
                Due.dueWords(call + " on a released page", x, p, value, value, value, value);
            }
        }
    }

    private static void fillRefuses() {
        for (int bad : Due.BAD_PAGES) {
            PageMerger x = Due.mixed();
            List<Integer> before = Due.seen(x);
            Due.due("fill(" + bad + ", 5)", x.fill(bad, 5), PageMerger.BAD_PAGE);
            Due.due("fill(" + bad + ", 5): all", Due.seen(x), before);
        }
    }

    private static void copyTakesWordsAndHeld() {
        PageMerger x = new PageMerger(4);
        Due.writeWords(x, 0, 1, -2, 3, Integer.MIN_VALUE);
        Due.due("copy(0, 23)", x.copy(0, 23), 0);
        Due.dueWords("copy(0, 23)", x, 23, 1, -2, 3, Integer.MIN_VALUE);
        Due.dueWords("copy(0, 23), its source", x, 0, 1, -2, 3, Integer.MIN_VALUE);
        x.write(23, 1, 50);
        Due.dueWords("a write to the copy", x, 0, 1, -2, 3, Integer.MIN_VALUE);
        x.write(0, 0, 60);
        Due.dueWords("a write to the source", x, 23, 1, 50, 3, Integer.MIN_VALUE);

        x.release(7);
        Due.due("copy of a released page", x.copy(7, 0), 0);
        Due.due("copy of a released page: held(0)", x.held(0), false);
        Due.due("copy of a released page: held(7)", x.held(7), false);
        Due.dueWords("copy of a released page", x, 0, 0, 0, 0, 0);
        Due.due("copy of a released page: release(0)", x.release(0), PageMerger.RELEASED);

        Due.due("copy onto a released page", x.copy(23, 7), 0);
        Due.due("copy onto a released page: held(7)", x.held(7), true);
        Due.dueWords("copy onto a released page", x, 7, 1, 50, 3, Integer.MIN_VALUE);

        PageMerger y = Due.mixed();
        List<Integer> before = Due.seen(y);
        Due.due("copy(9, 9)", y.copy(9, 9), 0);
        Due.due("copy(20, 20), released", y.copy(20, 20), 0);
        Due.due("copy of a page to itself: all", Due.seen(y), before);
    }

    private static void copyRefuses() {
        for (int bad : Due.BAD_PAGES) {
            PageMerger x = Due.mixed();
            List<Integer> before = Due.seen(x);
            Due.due("copy(" + bad + ", 0)", x.copy(bad, 0), PageMerger.BAD_PAGE);
            Due.due("copy(0, " + bad + ")", x.copy(0, bad), PageMerger.BAD_PAGE);
            Due.due("copy(" + bad + ", " + bad + ")", x.copy(bad, bad), PageMerger.BAD_PAGE);
            Due.due("copy with " + bad + ": all", Due.seen(x), before);
        }
    }

    private static void swapExchanges() {
        PageMerger x = new PageMerger(4);
        Due.writeWords(x, 0, 1, 2, 3, 4);
        Due.writeWords(x, 23, 5, 6, 7, 8);
        Due.due("swap(0, 23)", x.swap(0, 23), 0);
        Due.dueWords("swap(0, 23)", x, 0, 5, 6, 7, 8);
        Due.dueWords("swap(0, 23)", x, 23, 1, 2, 3, 4);
        Due.due("swap(0, 23): held(0)", x.held(0), true);
        Due.due("swap(0, 23): held(23)", x.held(23), true);

        for (int[] pair : new int[][] {{0, 8}, {8, 0}}) {
            PageMerger y = new PageMerger(4);
            Due.writeWords(y, 0, 1, 2, 3, 4);
            y.release(8);
            String call = "swap(" + pair[0] + ", " + pair[1] + "), 8 released";
            Due.due(call, y.swap(pair[0], pair[1]), 0);
            Due.due(call + ": held(0)", y.held(0), false);
            Due.due(call + ": held(8)", y.held(8), true);
            Due.dueWords(call, y, 0, 0, 0, 0, 0);
            Due.dueWords(call, y, 8, 1, 2, 3, 4);
        }

        PageMerger z = Due.mixed();
        List<Integer> before = Due.seen(z);
        Due.due("swap(9, 9)", z.swap(9, 9), 0);
        Due.due("swap(20, 20), released", z.swap(20, 20), 0);
        Due.due("swap(3, 20), both released", z.swap(3, 20), 0);
        Due.due("swaps that exchange nothing: all", Due.seen(z), before);
    }

    private static void swapRefuses() {
        for (int bad : Due.BAD_PAGES) {
            PageMerger x = Due.mixed();
            List<Integer> before = Due.seen(x);
            Due.due("swap(" + bad + ", 0)", x.swap(bad, 0), PageMerger.BAD_PAGE);
            Due.due("swap(0, " + bad + ")", x.swap(0, bad), PageMerger.BAD_PAGE);
            Due.due("swap(" + bad + ", " + bad + ")", x.swap(bad, bad), PageMerger.BAD_PAGE);
            Due.due("swap with " + bad + ": all", Due.seen(x), before);
        }
    }

    private static void releaseGivesUp() {
        for (int p : Due.EDGE_PAGES) {
            PageMerger x = new PageMerger(4);
            Due.writeWords(x, p, 1, 2, 3, 4);
            String call = "release(" + p + ")";
            Due.due(call, x.release(p), 0);
            Due.due(call + ": held", x.held(p), false);
            Due.dueWords(call, x, p, 0, 0, 0, 0);
            Due.due(call + ": sum", x.sum(p / 8), 0);
            Due.due(call + ": plain", x.plain(), 23);
            Due.due(call + " again", x.release(p), PageMerger.RELEASED);
            Due.due(call + " again: held", x.held(p), false);
            for (int q = 0; q < 24; q++) {
                Due.due(call + ": held(" + q + ")", x.held(q), q != p);
            }
        }
    }

    private static void releaseRefuses() {
        for (int bad : Due.BAD_PAGES) {
            PageMerger x = Due.mixed();
            List<Integer> before = Due.seen(x);
            Due.due("release(" + bad + ")", x.release(bad), PageMerger.BAD_PAGE);
            Due.due("release(3) again", x.release(3), PageMerger.RELEASED);
            Due.due("releases that are refused: all", Due.seen(x), before);
        }
    }

    private static void scanChangesNothing() {
        for (int n : new int[] {0, 1, 4, 16, 23, 24, 25, 1000, -1, -24, Integer.MIN_VALUE, Integer.MAX_VALUE}) {
            PageMerger x = Due.mixed();
            x.copy(2, 14);
            x.copy(2, 22);
            List<Integer> before = Due.seen(x);
            x.scan(n);
            x.scan(n);
            Due.due("scan(" + n + "): all", Due.seen(x), before);
            x.write(14, 0, 77);
            Due.due("scan(" + n + "), then a write to one of three alike: read(2, 0)", x.read(2, 0), 0);
            Due.due("scan(" + n + "), then a write to one of three alike: read(22, 0)", x.read(22, 0), 0);
            Due.due("scan(" + n + "): release(3)", x.release(3), PageMerger.RELEASED);
        }
    }
}
