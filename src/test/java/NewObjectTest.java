import java.util.List;
import java.util.function.Function;

/** Promise 1: a new object, and that frames change nothing. */
public final class NewObjectTest {
    private static final int[] FRAMES = {4, 5, 10, 15, 16, 3, 17, 0, -1, 24, 1000, Integer.MIN_VALUE, Integer.MAX_VALUE};

    public static void main(String[] args) {
        allIsZeroAtTheStart();
        allIsHeldAtTheStart();
        framesChangeNothing();
        objectsAreApart();
        Due.end();
    }

    private static void allIsZeroAtTheStart() {
        for (int frames : FRAMES) {
            allIsZero(frames);
        }
    }

    private static void allIsHeldAtTheStart() {
        for (int frames : FRAMES) {
            allIsHeld(frames);
        }
    }

    private static void framesChangeNothing() {
        for (Function<PageMerger, List<Integer>> look : Due.LOOKS) {
            List<Integer> wantOfNew = look.apply(new PageMerger(8));
            List<Integer> wantOfUsed = look.apply(used(8));
            for (int frames : FRAMES) {
                Due.due("frames " + frames + ": a new object", look.apply(new PageMerger(frames)), wantOfNew);
                Due.due("frames " + frames + ": the same run", look.apply(used(frames)), wantOfUsed);
            }
        }
    }

    private static void allIsZero(int frames) {
        String when = "new PageMerger(" + frames + ")";
        PageMerger x = new PageMerger(frames);
        for (int p = 0; p < 24; p++) {
            Due.dueWords(when, x, p, 0, 0, 0, 0);
        }
        for (int guest = 0; guest < 3; guest++) {
            Due.due(when + ": sum(" + guest + ")", x.sum(guest), 0);
        }
    }

    private static void allIsHeld(int frames) {
        String when = "new PageMerger(" + frames + ")";
        PageMerger x = new PageMerger(frames);
        for (int p = 0; p < 24; p++) {
            Due.due(when + ": held(" + p + ")", x.held(p), true);
        }
        Due.due(when + ": contents()", x.contents(), 1);
        Due.due(when + ": duplicates()", x.duplicates(), 23);
        Due.due(when + ": plain()", x.plain(), 24);
        for (int p = 0; p < 24; p++) {
            Due.due(when + ": release(" + p + ")", x.release(p), 0);
        }
    }

    /** More different pages than any host has frames for, so that a host that loses one would be seen. */
    private static PageMerger used(int frames) {
        PageMerger x = new PageMerger(frames);
        for (int p = 0; p < 24; p++) {
            for (int w = 0; w < 4; w++) {
                x.write(p, w, p * 10 + w + 1);
            }
            x.scan(p);
        }
        x.copy(1, 20);
        x.release(4);
        x.scan(24);
        x.swap(4, 9);
        x.fill(23, -7);
        return x;
    }

    private static void objectsAreApart() {
        PageMerger one = new PageMerger(4);
        PageMerger other = new PageMerger(4);
        one.fill(0, 5);
        one.release(1);
        Due.due("another object: read(0, 0)", other.read(0, 0), 0);
        Due.due("another object: held(1)", other.held(1), true);
    }
}
