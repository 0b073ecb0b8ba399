/**
 * The pages of three guests on one host, as the guests see them: ../shared/DOC.md says what each call does.
 *
 * What the host merges, squeezes or puts aside can be seen by no call but duplicates(), and that one is told
 * by the words of the pages alone. So every page is kept here as it is, and the host's own doings are left out.
 */
public final class PageMerger {
    public static final int BAD_PAGE = -1;
    public static final int BAD_WORD = -2;
    public static final int RELEASED = -3;

    private static final int GUESTS = 3;
    private static final int PAGES_OF_A_GUEST = 8;
    private static final int PAGES = GUESTS * PAGES_OF_A_GUEST;
    private static final int WORDS = 4;

    /** All words, page after page. A released page has zeros here, so that reading needs no look at heldPages. */
    private final int[] words;
    private final boolean[] heldPages;

    /** The number of frames is not kept: no answer may depend on it. */
    public PageMerger(int frames) {
        words = new int[PAGES * WORDS];
        heldPages = new boolean[PAGES];
        for (int p = 0; p < PAGES; p++) {
            heldPages[p] = true;
        }
    }

    public int write(int p, int word, int value) {
        if (!isPage(p)) {
            return BAD_PAGE;
        }
        if (!isWord(word)) {
            return BAD_WORD;
        }
        int before = words[p * WORDS + word];
        words[p * WORDS + word] = value;
        heldPages[p] = true;
        return before;
    }

    public int fill(int p, int value) {
        if (!isPage(p)) {
            return BAD_PAGE;
        }
        setAllWords(p, value);
        heldPages[p] = true;
        return 0;
    }

    public int copy(int from, int to) {
        if (!isPage(from) || !isPage(to)) {
            return BAD_PAGE;
        }
        for (int w = 0; w < WORDS; w++) {
            words[to * WORDS + w] = words[from * WORDS + w];
        }
        heldPages[to] = heldPages[from];
        return 0;
    }

    public int swap(int a, int b) {
        if (!isPage(a) || !isPage(b)) {
            return BAD_PAGE;
        }
        for (int w = 0; w < WORDS; w++) {
            int wordOfA = words[a * WORDS + w];
            words[a * WORDS + w] = words[b * WORDS + w];
            words[b * WORDS + w] = wordOfA;
        }
        boolean heldOfA = heldPages[a];
        heldPages[a] = heldPages[b];
        heldPages[b] = heldOfA;
        return 0;
    }

    public int release(int p) {
        if (!isPage(p)) {
            return BAD_PAGE;
        }
        if (!heldPages[p]) {
            return RELEASED;
        }
        setAllWords(p, 0);
        heldPages[p] = false;
        return 0;
    }

    /** Does nothing: the host may look through pages as it likes, but no answer may change by it. */
    public void scan(int n) {
    }

    public int read(int p, int word) {
        if (!isPage(p)) {
            return BAD_PAGE;
        }
        if (!isWord(word)) {
            return BAD_WORD;
        }
        return words[p * WORDS + word];
    }

    public boolean held(int p) {
        return isPage(p) && heldPages[p];
    }

    public boolean same(int a, int b) {
        return isPage(a) && isPage(b) && haveSameWords(a, b);
    }

    public int contents() {
        int count = 0;
        for (int p = 0; p < PAGES; p++) {
            if (heldPages[p] && !repeatsAnEarlierPage(p)) {
                count++;
            }
        }
        return count;
    }

    public int duplicates() {
        int count = 0;
        for (int p = 0; p < PAGES; p++) {
            if (heldPages[p] && repeatsAnEarlierPage(p)) {
                count++;
            }
        }
        return count;
    }

    public int sum(int guest) {
        if (guest < 0 || guest >= GUESTS) {
            return 0;
        }
        int wordsOfAGuest = PAGES_OF_A_GUEST * WORDS;
        int first = guest * wordsOfAGuest;
        int total = 0;
        for (int i = 0; i < wordsOfAGuest; i++) {
            total += words[first + i];
        }
        return total;
    }

    public int plain() {
        int count = 0;
        for (int p = 0; p < PAGES; p++) {
            if (heldPages[p] && hasOneValue(p)) {
                count++;
            }
        }
        return count;
    }

    private static boolean isPage(int p) {
        return p >= 0 && p < PAGES;
    }

    private static boolean isWord(int word) {
        return word >= 0 && word < WORDS;
    }

    // The methods below are called only with page numbers that isPage has let through or that count up to PAGES.

    private void setAllWords(int p, int value) {
        for (int w = 0; w < WORDS; w++) {
            words[p * WORDS + w] = value;
        }
    }

    private boolean haveSameWords(int a, int b) {
        for (int w = 0; w < WORDS; w++) {
            if (words[a * WORDS + w] != words[b * WORDS + w]) {
                return false;
            }
        }
        return true;
    }

    private boolean repeatsAnEarlierPage(int p) {
        for (int earlier = 0; earlier < p; earlier++) {
            if (heldPages[earlier] && haveSameWords(earlier, p)) {
                return true;
            }
        }
        return false;
    }

    private boolean hasOneValue(int p) {
        for (int w = 1; w < WORDS; w++) {
            if (words[p * WORDS + w] != words[p * WORDS]) {
                return false;
            }
        }
        return true;
    }
}
