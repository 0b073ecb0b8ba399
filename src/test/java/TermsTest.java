import java.util.ArrayList;
import java.util.List;
import java.util.Random;
import java.util.function.Consumer;
import java.util.function.Function;

/** "What it is" and "Terms": the guests' pages, released pages, names of pages, calls that change nothing. */
public final class TermsTest {
    public static void main(String[] args) {
        threeGuestsOfEightPagesOfFourWords();
        answersHoldToThe512thCall();
        nothingOfTheHostCanBeSeen();
        aPageIsNamedByGuestAndPage();
        releasedWordsAreGivenUp();
        releasedPagesCountForNothing();
        releasedPagesStaySoUntilWritten();
        aWriteHoldsAgainWithZerosBeside();
        heldChangesNothing();
        sameChangesNothing();
        contentsChangesNothing();
        duplicatesChangesNothing();
        sumChangesNothing();
        plainChangesNothing();
        scanChangesNothing();
        readChangesNothing();
        Due.end();
    }

    private static void threeGuestsOfEightPagesOfFourWords() {
        PageMerger x = new PageMerger(4);
        for (int p = 0; p < 24; p++) {
            for (int w = 0; w < 4; w++) {
                Due.due("the first write(" + p + ", " + w + ", 6)", x.write(p, w, 6), 0);
            }
            Due.due("four words in page " + p + ": write of a fifth", x.write(p, 4, 6), PageMerger.BAD_WORD);
        }
        Due.due("24 pages: write to a 25th", x.write(24, 0, 6), PageMerger.BAD_PAGE);
        for (int guest = 0; guest < 3; guest++) {
            Due.due("all words 6: sum(" + guest + ")", x.sum(guest), 6 * 8 * 4);
        }
        Due.due("three guests: sum of a fourth", x.sum(3), 0);
    }

    /** Each call once as the 512th of its object. */
    private static void answersHoldToThe512thCall() {
        Due.due("the 512th: write", after511Calls().write(23, 3, 9), 26);
        Due.due("the 512th: fill", after511Calls().fill(0, 9), 0);
        Due.due("the 512th: copy", after511Calls().copy(0, 24), PageMerger.BAD_PAGE);
        Due.due("the 512th: swap", after511Calls().swap(0, 23), 0);
        Due.due("the 512th: release", after511Calls().release(5), PageMerger.RELEASED);
        after511Calls().scan(24);
        Due.due("the 512th: read", after511Calls().read(22, 1), 23);
        Due.due("the 512th: read of a bad word", after511Calls().read(22, 4), PageMerger.BAD_WORD);
        Due.due("the 512th: held", after511Calls().held(22), true);
        Due.due("the 512th: same", after511Calls().same(5, 6), true);
        Due.due("the 512th: contents", after511Calls().contents(), 23);
        Due.due("the 512th: duplicates", after511Calls().duplicates(), 0);
        Due.due("the 512th: sum", after511Calls().sum(2), 4 * (16 + 17 + 18 + 19 + 20 + 21 + 22 + 23) + 8 * (0 + 1 + 2 + 3));
        Due.due("the 512th: plain", after511Calls().plain(), 1);
    }

    /** All words are written five times over; page 5 is released in the end, and page 6 filled with zeros. */
    private static PageMerger after511Calls() {
        PageMerger x = new PageMerger(4);
        int calls = 0;
        for (int round = 0; round < 5; round++) {
            for (int p = 0; p < 24; p++) {
                Due.writeWords(x, p, p + round - 4, p + round - 3, p + round - 2, p + round - 1);
                calls += 4;
            }
        }
        x.release(5);
        x.fill(6, 0);
        calls += 2;
        while (calls < 511) {
            Due.due("call " + calls + ": read(23, 0)", x.read(23, 0), 23);
            calls++;
        }
        return x;
    }

    /**
     * A host with the fewest frames that scans after every call, beside one with the most that never scans:
     * both have the same calls else, and must answer them alike. Of the pages many are alike, and they are written
     * to after that, so that a page kept once for two is seen if a write to the one changes the other.
     */
    private static void nothingOfTheHostCanBeSeen() {
        for (int seed = 0; seed < 200; seed++) {
            Due.due("seed " + seed + ": all answers", mixedRun(new PageMerger(4), seed, true),
                mixedRun(new PageMerger(16), seed, false));
        }
    }

    /** 100 changing calls with a scan behind each if the host scans, then all that can be seen: 326 calls at most. */
    private static List<Integer> mixedRun(PageMerger x, int seed, boolean hostScans) {
        Random random = new Random(seed);
        List<Integer> all = new ArrayList<>();
        for (int i = 0; i < 100; i++) {
            int p = random.nextInt(24);
            int q = random.nextInt(24);
            int value = random.nextInt(3);
            switch (random.nextInt(5)) {
                case 0 -> all.add(x.write(p, random.nextInt(4), value));
                case 1 -> all.add(x.fill(p, value));
                case 2 -> all.add(x.copy(p, q));
                case 3 -> all.add(x.swap(p, q));
                default -> all.add(x.release(p));
            }
            if (hostScans) {
                x.scan(24);
            }
        }
        all.addAll(Due.seen(x));
        return all;
    }

    private static void aPageIsNamedByGuestAndPage() {
        for (int guest = 0; guest < 3; guest++) {
            for (int page = 0; page < 8; page++) {
                PageMerger x = new PageMerger(4);
                String call = "fill of guest " + guest + ", page " + page;
                Due.due(call, x.fill(guest * 8 + page, 5), 0);
                for (int other = 0; other < 3; other++) {
                    Due.due(call + ": sum(" + other + ")", x.sum(other), other == guest ? 20 : 0);
                }
            }
        }
    }

    private static void releasedWordsAreGivenUp() {
        for (int p = 0; p < 24; p++) {
            PageMerger x = allDifferent();
            x.release(p);
            for (int q = 0; q < 24; q++) {
                String when = "release(" + p + ")";
                if (q == p) {
                    Due.dueWords(when, x, q, 0, 0, 0, 0);
                } else {
                    Due.dueWords(when, x, q, q + 1, q + 2, q + 3, q + 4);
                }
                Due.due(when + ": held(" + q + ")", x.held(q), q != p);
            }
        }
    }

    private static void releasedPagesCountForNothing() {
        for (int p = 0; p < 24; p++) {
            PageMerger x = new PageMerger(4);
            x.fill(p, 9);
            Due.due("fill(" + p + ", 9): contents()", x.contents(), 2);
            x.release(p);
            String when = "release(" + p + ")";
            Due.due(when + ": contents()", x.contents(), 1);
            Due.due(when + ": duplicates()", x.duplicates(), 22);
            Due.due(when + ": plain()", x.plain(), 23);
            Due.due(when + ": sum", x.sum(p / 8), 0);
        }
        for (int p = 0; p < 24; p++) {
            PageMerger x = allDifferent();
            x.release(p);
            x.fill((p + 1) % 24, 0);
            String when = "one page of zeros beside the released page " + p;
            Due.due(when + ": contents()", x.contents(), 23);
            Due.due(when + ": duplicates()", x.duplicates(), 0);
            Due.due(when + ": plain()", x.plain(), 1);
        }
    }

    /** What is no write to the page, a refused one too, does not make it held. */
    private static void releasedPagesStaySoUntilWritten() {
        for (int p = 0; p < 24; p++) {
            int page = p;
            int other = (p + 1) % 24;
            dueStillReleased(p, "a write to word 4", x -> x.write(page, 4, 1));
            dueStillReleased(p, "a write to word -1", x -> x.write(page, -1, 1));
            dueStillReleased(p, "a write to another page", x -> x.write(other, 0, 1));
            dueStillReleased(p, "a fill of another page", x -> x.fill(other, 1));
            dueStillReleased(p, "a release of another page", x -> x.release(other));
            dueStillReleased(p, "a refused release", x -> x.release(page));
            dueStillReleased(p, "a copy of it", x -> x.copy(page, other));
            dueStillReleased(p, "a copy to itself", x -> x.copy(page, page));
            dueStillReleased(p, "a refused copy of it", x -> x.copy(page, -1));
            dueStillReleased(p, "a refused copy to it", x -> x.copy(24, page));
            dueStillReleased(p, "a swap with itself", x -> x.swap(page, page));
            dueStillReleased(p, "a refused swap from it", x -> x.swap(page, 24));
            dueStillReleased(p, "a refused swap to it", x -> x.swap(-1, page));
            dueStillReleased(p, "a scan", x -> x.scan(24));
            dueStillReleased(p, "a read", x -> x.read(page, 0));
        }
    }

    private static void dueStillReleased(int p, String what, Consumer<PageMerger> action) {
        PageMerger x = allDifferent();
        x.release(p);
        action.accept(x);
        String when = "page " + p + " released, then " + what;
        Due.due(when + ": held", x.held(p), false);
        Due.dueWords(when, x, p, 0, 0, 0, 0);
        Due.due(when + ": release", x.release(p), PageMerger.RELEASED);
    }

    private static void aWriteHoldsAgainWithZerosBeside() {
        for (int p = 0; p < 24; p++) {
            for (int w = 0; w < 4; w++) {
                for (int value : new int[] {0, 9, -3}) {
                    PageMerger x = allDifferent();
                    x.release(p);
                    String call = "write(" + p + ", " + w + ", " + value + ") on a released page";
                    Due.due(call, x.write(p, w, value), 0);
                    Due.due(call + ": held", x.held(p), true);
                    int[] want = new int[4];
                    want[w] = value;
                    Due.dueWords(call, x, p, want);
                    Due.due(call + ": contents()", x.contents(), 24);
                    Due.due(call + ": plain()", x.plain(), value == 0 ? 1 : 0);
                }
            }
        }
    }

    private static void heldChangesNothing() {
        for (int p = -1; p <= 24; p++) {
            int page = p;
            dueNoChange("held(" + p + ")", x -> x.held(page));
        }
        dueNoChange("held(MIN), held(MAX)", x -> {
            x.held(Integer.MIN_VALUE);
            x.held(Integer.MAX_VALUE);
        });
    }

    private static void sameChangesNothing() {
        for (int a = -1; a <= 24; a++) {
            for (int b = -1; b <= 24; b++) {
                int one = a;
                int other = b;
                dueNoChange("same(" + a + ", " + b + ")", x -> x.same(one, other));
            }
        }
        dueNoChange("same(MIN, MAX)", x -> x.same(Integer.MIN_VALUE, Integer.MAX_VALUE));
    }

    private static void contentsChangesNothing() {
        dueNoChange("contents()", PageMerger::contents);
    }

    private static void duplicatesChangesNothing() {
        dueNoChange("duplicates()", PageMerger::duplicates);
    }

    private static void sumChangesNothing() {
        for (int guest = 0; guest < 3; guest++) {
            int good = guest;
            dueNoChange("sum(" + guest + ")", x -> x.sum(good));
        }
        for (int bad : Due.BAD_GUESTS) {
            dueNoChange("sum(" + bad + ")", x -> x.sum(bad));
        }
    }

    private static void plainChangesNothing() {
        dueNoChange("plain()", PageMerger::plain);
    }

    /** Promise 7, for n round every number that the document names, and the ends of int. */
    private static void scanChangesNothing() {
        for (int n = -2; n <= 26; n++) {
            int some = n;
            dueNoChange("scan(" + n + ")", x -> x.scan(some));
        }
        for (int n : new int[] {-24, 96, 512, 1 << 30, Integer.MIN_VALUE, Integer.MIN_VALUE + 1, Integer.MAX_VALUE}) {
            dueNoChange("scan(" + n + ")", x -> x.scan(n));
        }
    }

    /** Promise 8, with the reads that are refused. */
    private static void readChangesNothing() {
        for (int p = -1; p <= 24; p++) {
            for (int w = -1; w <= 4; w++) {
                int page = p;
                int word = w;
                dueNoChange("read(" + p + ", " + w + ")", x -> x.read(page, word));
            }
        }
    }

    /** Each object beside a twin that the call is not made on: from then on both must answer alike. */
    private static void dueNoChange(String call, Consumer<PageMerger> action) {
        for (Function<PageMerger, List<Integer>> look : Due.LOOKS) {
            List<PageMerger> twins = states();
            List<PageMerger> objects = states();
            for (int i = 0; i < objects.size(); i++) {
                PageMerger x = objects.get(i);
                action.accept(x);
                action.accept(x);
                Due.due(call + " twice, in state " + i + ": what follows", look.apply(x), look.apply(twins.get(i)));
            }
        }
    }

    private static List<PageMerger> states() {
        List<PageMerger> all = new ArrayList<>();
        all.add(new PageMerger(4));
        all.add(Due.mixed());
        all.add(allDifferent());
        all.add(noneHeld());
        return all;
    }

    private static PageMerger allDifferent() {
        PageMerger x = new PageMerger(16);
        for (int p = 0; p < 24; p++) {
            Due.writeWords(x, p, p + 1, p + 2, p + 3, p + 4);
        }
        return x;
    }

    private static PageMerger noneHeld() {
        PageMerger x = new PageMerger(5);
        for (int p = 0; p < 24; p++) {
            x.release(p);
        }
        return x;
    }
}
