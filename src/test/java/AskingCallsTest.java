/** Promises 8 to 14: read, held, same, contents, duplicates, sum, plain. */
public final class AskingCallsTest {
    public static void main(String[] args) {
        readTellsWords();
        readTellsWordsThatEqualRefusals();
        readOfAReleasedPageIsZero();
        readRefusesABadPage();
        readRefusesABadWord();
        heldTells();
        heldRefuses();
        sameCompares();
        sameRefuses();
        countsOfContents();
        countsSeeEveryWord();
        countsLeaveReleasedOut();
        contentsOfNoneHeld();
        contentsOfAllHeld();
        duplicatesOfNoneHeld();
        duplicatesOfAllHeld();
        sums();
        sumsWrap();
        sumRefuses();
        plainCounts();
        plainOfNoneHeld();
        plainOfAllHeld();
        Due.end();
    }

    private static void readTellsWords() {
        PageMerger x = new PageMerger(4);
        for (int p = 0; p < 24; p++) {
            Due.writeWords(x, p, p * 4 + 1, p * 4 + 2, p * 4 + 3, p * 4 + 4);
        }
        for (int p = 0; p < 24; p++) {
            Due.dueWords("all different", x, p, p * 4 + 1, p * 4 + 2, p * 4 + 3, p * 4 + 4);
        }
    }

    private static void readTellsWordsThatEqualRefusals() {
        for (int p = 0; p < 24; p++) {
            PageMerger x = new PageMerger(4);
            Due.writeWords(x, p, PageMerger.BAD_PAGE, PageMerger.BAD_WORD, PageMerger.RELEASED, Integer.MIN_VALUE);
            Due.dueWords("words like refusals", x, p, -1, -2, -3, Integer.MIN_VALUE);
        }
    }

    private static void readOfAReleasedPageIsZero() {
        for (int p = 0; p < 24; p++) {
            PageMerger x = new PageMerger(4);
            Due.writeWords(x, p, 1, 2, 3, 4);
            x.release(p);
            Due.dueWords("released", x, p, 0, 0, 0, 0);
        }
    }

    private static void readRefusesABadPage() {
        PageMerger x = Due.mixed();
        for (int bad : Due.BAD_PAGES) {
            for (int w = 0; w < 4; w++) {
                Due.due("read(" + bad + ", " + w + ")", x.read(bad, w), PageMerger.BAD_PAGE);
            }
        }
    }

    private static void readRefusesABadWord() {
        PageMerger x = Due.mixed();
        for (int bad : Due.BAD_WORDS) {
            for (int p = 0; p < 24; p++) {
                Due.due("read(" + p + ", " + bad + ")", x.read(p, bad), PageMerger.BAD_WORD);
            }
        }
    }

    private static void heldTells() {
        PageMerger x = Due.mixed();
        for (int p = 0; p < 24; p++) {
            Due.due("held(" + p + ")", x.held(p), p != 3 && p != 20);
        }
        x.write(3, 0, 0);
        Due.due("held(3) after a write of 0", x.held(3), true);
        x.fill(20, 0);
        Due.due("held(20) after a fill with 0", x.held(20), true);
    }

    private static void heldRefuses() {
        PageMerger x = new PageMerger(4);
        for (int bad : Due.BAD_PAGES) {
            Due.due("held(" + bad + ")", x.held(bad), false);
        }
        // A host that keeps a place for a refused page would hold it now.
        x.write(24, 0, 1);
        x.fill(24, 1);
        x.copy(0, -1);
        Due.due("held(24) after a refused fill", x.held(24), false);
        Due.due("held(-1) after a refused copy", x.held(-1), false);
    }

    private static void sameCompares() {
        PageMerger x = Due.mixed();
        for (int a = 0; a < 24; a++) {
            for (int b = 0; b < 24; b += 5) {
                boolean bothZero = (a == 3 || a == 5 || a == 20) && (b == 3 || b == 5 || b == 20);
                Due.due("same(" + a + ", " + b + ")", x.same(a, b), a == b || bothZero);
            }
        }
        for (int w = 0; w < 4; w++) {
            PageMerger y = new PageMerger(4);
            Due.writeWords(y, 0, 1, 2, 3, 4);
            Due.writeWords(y, 23, 1, 2, 3, 4);
            Due.due("same(0, 23), alike", y.same(0, 23), true);
            y.write(23, w, 9);
            Due.due("same(0, 23), word " + w + " different", y.same(0, 23), false);
            Due.due("same(23, 0), word " + w + " different", y.same(23, 0), false);
        }
        PageMerger z = new PageMerger(4);
        Due.writeWords(z, 0, 1, 2, 3, 4);
        Due.writeWords(z, 1, 4, 3, 2, 1);
        Due.due("same words in another order", z.same(0, 1), false);
        z.release(0);
        Due.due("same of a released page and zeros", z.same(0, 2), true);
        Due.due("same of zeros and a released page", z.same(2, 0), true);
        Due.due("same of a released page and other words", z.same(0, 1), false);
        z.release(2);
        Due.due("same of two released pages", z.same(0, 2), true);
        Due.due("same of a released page and itself", z.same(0, 0), true);
    }

    private static void sameRefuses() {
        PageMerger x = new PageMerger(4);
        for (int bad : Due.BAD_PAGES) {
            for (int p : new int[] {0, 23}) {
                Due.due("same(" + bad + ", " + p + ")", x.same(bad, p), false);
                Due.due("same(" + p + ", " + bad + ")", x.same(p, bad), false);
            }
            Due.due("same(" + bad + ", " + bad + ")", x.same(bad, bad), false);
        }
        Due.due("same(-1, 24)", x.same(-1, 24), false);
    }

    private static void dueCounts(String when, PageMerger x, int contents, int duplicates) {
        Due.due(when + ": contents()", x.contents(), contents);
        Due.due(when + ": duplicates()", x.duplicates(), duplicates);
    }

    private static void countsOfContents() {
        PageMerger x = new PageMerger(4);
        for (int p = 0; p < 24; p++) {
            x.fill(p, p);
            dueCounts("fills to " + p, x, p + 1, 23 - p);
        }
        x.copy(0, 23);
        dueCounts("copy(0, 23)", x, 23, 1);
        x.copy(0, 22);
        dueCounts("copy(0, 22)", x, 22, 2);
        x.copy(5, 6);
        dueCounts("copy(5, 6)", x, 21, 3);
        x.release(0);
        dueCounts("release of the first of three alike", x, 21, 2);
        x.release(5);
        dueCounts("release of the first of two alike", x, 21, 1);
        x.release(10);
        dueCounts("release of a page alone in its contents", x, 20, 1);
    }

    private static void countsSeeEveryWord() {
        for (int w = 0; w < 4; w++) {
            PageMerger x = new PageMerger(4);
            x.write(11, w, 1);
            dueCounts("word " + w + " different", x, 2, 22);
        }
        PageMerger y = new PageMerger(4);
        y.write(0, 0, 1);
        y.write(1, 1, 1);
        y.write(2, 2, 1);
        y.write(3, 3, 1);
        dueCounts("one word in other places", y, 5, 19);
    }

    private static void countsLeaveReleasedOut() {
        PageMerger x = new PageMerger(4);
        x.fill(23, 1);
        for (int p = 0; p < 23; p++) {
            x.release(p);
            dueCounts("released to " + p, x, p == 22 ? 1 : 2, p == 22 ? 0 : 21 - p);
        }
        x.release(23);
        dueCounts("all released", x, 0, 0);
        x.write(23, 3, 0);
        dueCounts("one held again, beside released zeros", x, 1, 0);
        Due.due("one held again: plain()", x.plain(), 1);
        x.fill(0, 0);
        dueCounts("two held again", x, 1, 1);
    }

    /** All pages released: those with words of their own, and those of zeros. */
    private static PageMerger noneHeld() {
        PageMerger x = new PageMerger(4);
        for (int p = 0; p < 24; p++) {
            if (p % 3 != 0) {
                x.fill(p, p);
            }
            x.release(p);
        }
        return x;
    }

    /** All pages held and different, none of them plain, though each has the same four words in another order. */
    private static PageMerger allOrders() {
        PageMerger x = new PageMerger(4);
        int p = 0;
        for (int a = 0; a < 4; a++) {
            for (int b = 0; b < 4; b++) {
                for (int c = 0; c < 4; c++) {
                    if (a != b && a != c && b != c) {
                        Due.writeWords(x, p, a, b, c, 6 - a - b - c);
                        p++;
                    }
                }
            }
        }
        return x;
    }

    private static PageMerger allFilledWith(int value) {
        PageMerger x = new PageMerger(4);
        for (int p = 0; p < 24; p++) {
            x.fill(p, value);
        }
        return x;
    }

    private static void contentsOfNoneHeld() {
        PageMerger x = noneHeld();
        Due.due("none held: contents()", x.contents(), 0);
        x.fill(12, 0);
        Due.due("one held: contents()", x.contents(), 1);
    }

    private static void contentsOfAllHeld() {
        Due.due("a new object: contents()", new PageMerger(4).contents(), 1);
        Due.due("all filled with 7: contents()", allFilledWith(7).contents(), 1);
        Due.due("all orders of four words: contents()", allOrders().contents(), 24);
    }

    private static void duplicatesOfNoneHeld() {
        PageMerger x = noneHeld();
        Due.due("none held: duplicates()", x.duplicates(), 0);
        x.fill(12, 0);
        Due.due("one held: duplicates()", x.duplicates(), 0);
        x.fill(23, 0);
        Due.due("two held, alike: duplicates()", x.duplicates(), 1);
    }

    private static void duplicatesOfAllHeld() {
        Due.due("a new object: duplicates()", new PageMerger(4).duplicates(), 23);
        Due.due("all filled with 7: duplicates()", allFilledWith(7).duplicates(), 23);
        Due.due("all orders of four words: duplicates()", allOrders().duplicates(), 0);
        for (int a = 0; a < 24; a++) {
            for (int b = 0; b < 24; b++) {
                PageMerger x = allOrders();
                x.copy(a, b);
                Due.due("all different but " + a + " and " + b + ": duplicates()", x.duplicates(), a == b ? 0 : 1);
            }
        }
    }

    private static void plainOfNoneHeld() {
        PageMerger x = noneHeld();
        Due.due("none held: plain()", x.plain(), 0);
        x.fill(12, 0);
        Due.due("one held: plain()", x.plain(), 1);
    }

    private static void plainOfAllHeld() {
        Due.due("a new object: plain()", new PageMerger(4).plain(), 24);
        Due.due("all filled with 7: plain()", allFilledWith(7).plain(), 24);
        Due.due("all orders of four words: plain()", allOrders().plain(), 0);
        PageMerger x = new PageMerger(4);
        for (int p = 0; p < 24; p++) {
            x.fill(p, -p);
        }
        Due.due("each page plain in its own value: plain()", x.plain(), 24);
    }

    private static void sumRefuses() {
        PageMerger x = new PageMerger(4);
        for (int p = 0; p < 24; p++) {
            x.fill(p, p + 1);
        }
        for (int bad : Due.BAD_GUESTS) {
            Due.due("sum(" + bad + ")", x.sum(bad), 0);
        }
    }

    private static void sums() {
        for (int p = 0; p < 24; p++) {
            PageMerger x = new PageMerger(4);
            Due.writeWords(x, p, 1, 20, 300, -4000);
            for (int guest = 0; guest < 3; guest++) {
                Due.due("words in page " + p + ": sum(" + guest + ")", x.sum(guest), guest == p / 8 ? -3679 : 0);
            }
        }
        PageMerger y = new PageMerger(4);
        for (int p = 0; p < 24; p++) {
            y.fill(p, p + 1);
        }
        Due.due("sum(0)", y.sum(0), 4 * 36);
        Due.due("sum(1)", y.sum(1), 4 * 100);
        Due.due("sum(2)", y.sum(2), 4 * 164);
        y.release(8);
        y.release(23);
        Due.due("sum(1) without page 8", y.sum(1), 4 * 91);
        Due.due("sum(2) without page 23", y.sum(2), 4 * 140);
    }

    private static void sumsWrap() {
        PageMerger x = new PageMerger(4);
        x.write(0, 0, Integer.MAX_VALUE);
        x.write(7, 3, 1);
        Due.due("MAX + 1: sum(0)", x.sum(0), Integer.MIN_VALUE);
        x.write(16, 0, Integer.MIN_VALUE);
        x.write(23, 3, -1);
        Due.due("MIN - 1: sum(2)", x.sum(2), Integer.MAX_VALUE);
        for (int p = 8; p < 16; p++) {
            x.fill(p, Integer.MAX_VALUE);
        }
        Due.due("32 times MAX: sum(1)", x.sum(1), -32);
    }

    private static void plainCounts() {
        for (int p : Due.EDGE_PAGES) {
            for (int w = 0; w < 4; w++) {
                PageMerger x = new PageMerger(4);
                x.write(p, w, 1);
                Due.due("write(" + p + ", " + w + ", 1): plain()", x.plain(), 23);
                x.fill(p, 1);
                Due.due("fill(" + p + ", 1): plain()", x.plain(), 24);
                x.write(p, w, 0);
                Due.due("write(" + p + ", " + w + ", 0) into ones: plain()", x.plain(), 23);
                x.release(p);
                Due.due("release(" + p + "): plain()", x.plain(), 23);
                x.write(p, w, 0);
                Due.due("write(" + p + ", " + w + ", 0) on a released page: plain()", x.plain(), 24);
            }
        }
        PageMerger y = new PageMerger(4);
        Due.writeWords(y, 4, 1, 1, 2, 2);
        Due.writeWords(y, 5, 1, 2, 1, 2);
        Due.writeWords(y, 6, 1, 2, 2, 1);
        Due.writeWords(y, 7, Integer.MIN_VALUE, Integer.MIN_VALUE, Integer.MIN_VALUE, Integer.MIN_VALUE);
        Due.due("words in pairs: plain()", y.plain(), 21);
    }
}
