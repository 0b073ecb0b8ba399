import java.lang.reflect.Constructor;
import java.lang.reflect.Field;
import java.lang.reflect.Method;
import java.lang.reflect.Modifier;
import java.util.Set;
import java.util.TreeSet;

/** The public face: just what the document writes, and nothing else that is not private (LANGUAGE.md, rule 1). */
public final class FaceTest {
    public static void main(String[] args) throws IllegalAccessException {
        Due.due("the class", Modifier.toString(PageMerger.class.getModifiers()), "public final");
        Due.due("what it extends", PageMerger.class.getSuperclass(), Object.class);
        Due.due("what it implements", PageMerger.class.getInterfaces().length, 0);
        Due.due("constructors", constructors(), Set.of("public PageMerger(int)"));
        Due.due("fields", fields(), Set.of("BAD_PAGE = -1", "BAD_WORD = -2", "RELEASED = -3"));
        Due.due("methods", methods(), Set.of(
            "public int PageMerger.write(int,int,int)",
            "public int PageMerger.fill(int,int)",
            "public int PageMerger.copy(int,int)",
            "public int PageMerger.swap(int,int)",
            "public int PageMerger.release(int)",
            "public void PageMerger.scan(int)",
            "public int PageMerger.read(int,int)",
            "public boolean PageMerger.held(int)",
            "public boolean PageMerger.same(int,int)",
            "public int PageMerger.contents()",
            "public int PageMerger.duplicates()",
            "public int PageMerger.sum(int)",
            "public int PageMerger.plain()"));
        Due.due("private methods with a public one's name", privateNamesakes(), Set.of());
        Due.due("classes inside that are public or protected", openClassesInside(), Set.of());
        Due.end();
    }

    private static Set<String> constructors() {
        Set<String> all = new TreeSet<>();
        for (Constructor<?> c : PageMerger.class.getDeclaredConstructors()) {
            if (!Modifier.isPrivate(c.getModifiers())) {
                all.add(c.toString());
            }
        }
        return all;
    }

    private static Set<String> fields() throws IllegalAccessException {
        Set<String> all = new TreeSet<>();
        for (Field f : PageMerger.class.getDeclaredFields()) {
            if (Modifier.isPrivate(f.getModifiers())) {
                continue;
            }
            boolean constant = Modifier.toString(f.getModifiers()).equals("public static final") && f.getType() == int.class;
            all.add(constant ? f.getName() + " = " + f.getInt(null) : f.toString());
        }
        return all;
    }

    private static Set<String> methods() {
        Set<String> all = new TreeSet<>();
        for (Method m : PageMerger.class.getDeclaredMethods()) {
            if (!Modifier.isPrivate(m.getModifiers())) {
                all.add(m.toString());
            }
        }
        return all;
    }

    private static Set<String> privateNamesakes() {
        Set<String> open = new TreeSet<>();
        Set<String> hidden = new TreeSet<>();
        for (Method m : PageMerger.class.getDeclaredMethods()) {
            (Modifier.isPrivate(m.getModifiers()) ? hidden : open).add(m.getName());
        }
        hidden.retainAll(open);
        return hidden;
    }

    private static Set<String> openClassesInside() {
        Set<String> all = new TreeSet<>();
        for (Class<?> c : PageMerger.class.getDeclaredClasses()) {
            if (Modifier.isPublic(c.getModifiers()) || Modifier.isProtected(c.getModifiers())) {
                all.add(c.getName());
            }
        }
        return all;
    }
}
