import java.util.List;

/** Promise 15: a bad page is told before a bad word. */
public final class OrderTest {
    public static void main(String[] args) {
        writeTellsTheBadPageFirst();
        readTellsTheBadPageFirst();
        Due.end();
    }

    private static void writeTellsTheBadPageFirst() {
        PageMerger x = Due.mixed();
        List<Integer> before = Due.seen(x);
        for (int page : Due.BAD_PAGES) {
            for (int word : Due.BAD_WORDS) {
                Due.due("write(" + page + ", " + word + ", 1)", x.write(page, word, 1), PageMerger.BAD_PAGE);
            }
        }
        Due.due("after all of them: all", Due.seen(x), before);
    }

    private static void readTellsTheBadPageFirst() {
        PageMerger x = Due.mixed();
        for (int page : Due.BAD_PAGES) {
            for (int word : Due.BAD_WORDS) {
                Due.due("read(" + page + ", " + word + ")", x.read(page, word), PageMerger.BAD_PAGE);
            }
        }
    }
}
