import java.lang.reflect.Constructor;
import java.lang.reflect.Field;
import java.lang.reflect.Member;
import java.lang.reflect.Method;
import java.lang.reflect.Modifier;
import java.util.ArrayList;
import java.util.Arrays;
import java.util.Collections;
import java.util.List;

/** The face is the document's: nothing is missing, and nothing more can be seen from outside. */
public final class FaceTests {
    private static final String[] METHODS = {
        "void number(int, long) throws NoSuchElementException, IllegalArgumentException",
        "void drop(int) throws NoSuchElementException",
        "void copy(int, int) throws NoSuchElementException",
        "void cons(int, int, int) throws NoSuchElementException, UnsupportedOperationException",
        "void list(int, int, int) throws NoSuchElementException, IllegalArgumentException, UnsupportedOperationException",
        "void first(int, int) throws NoSuchElementException, IllegalStateException",
        "void rest(int, int) throws NoSuchElementException, IllegalStateException",
        "void setFirst(int, int) throws NoSuchElementException, IllegalStateException",
        "void setRest(int, int) throws NoSuchElementException, IllegalStateException, UnsupportedOperationException",
        "void append(int, int, int) throws NoSuchElementException, IllegalStateException, UnsupportedOperationException",
        "int kind(int) throws NoSuchElementException",
        "long value(int) throws NoSuchElementException, IllegalStateException",
        "boolean same(int, int) throws NoSuchElementException",
        "int length(int) throws NoSuchElementException",
        "int words(int) throws NoSuchElementException",
        "boolean alike(int, int) throws NoSuchElementException",
        "int collect()",
        "int about(int)",
        "long word(int, int) throws IndexOutOfBoundsException, IllegalArgumentException",
    };

    private static int wrong = 0;

    public static void main(String[] args) {
        due("class", Modifier.toString(ListMemory.class.getModifiers()), "public final");
        due("methods", seenMethods(), sorted(Arrays.asList(METHODS)));
        due("constants", seenFields(), Arrays.asList("public static final int NONE"));
        due("constructors", seenConstructors(), Arrays.asList("public ListMemory()"));
        due("private methods named as public ones", clashes(), new ArrayList<String>());
        System.out.println(wrong == 0 ? "the face is as due" : wrong + " parts of the face are not as due");
        if (wrong != 0) {
            System.exit(1);
        }
    }

    private static void due(String what, Object got, Object want) {
        if (!got.equals(want)) {
            wrong++;
            System.out.println(what + ": " + got + ", due is " + want);
        }
    }

    private static List<String> sorted(List<String> texts) {
        List<String> all = new ArrayList<>(texts);
        Collections.sort(all);
        return all;
    }

    private static boolean isSeen(Member member) {
        return !Modifier.isPrivate(member.getModifiers()) && !member.isSynthetic();
    }

    private static List<String> seenMethods() {
        List<String> seen = new ArrayList<>();
        for (Method m : ListMemory.class.getDeclaredMethods()) {
            if (isSeen(m)) {
                String modifiers = Modifier.toString(m.getModifiers());
                seen.add((modifiers.equals("public") ? "" : modifiers + " ") + told(m));
            }
        }
        return sorted(seen);
    }

    private static String told(Method m) {
        String text = m.getReturnType().getSimpleName() + " " + m.getName() + "(" + names(m.getParameterTypes()) + ")";
        return m.getExceptionTypes().length == 0 ? text : text + " throws " + names(m.getExceptionTypes());
    }

    private static String names(Class<?>[] types) {
        List<String> names = new ArrayList<>();
        for (Class<?> type : types) {
            names.add(type.getSimpleName());
        }
        return String.join(", ", names);
    }

    private static List<String> seenFields() {
        List<String> seen = new ArrayList<>();
        for (Field f : ListMemory.class.getDeclaredFields()) {
            if (isSeen(f)) {
                seen.add(Modifier.toString(f.getModifiers()) + " " + f.getType().getSimpleName() + " " + f.getName());
            }
        }
        return seen;
    }

    private static List<String> seenConstructors() {
        List<String> seen = new ArrayList<>();
        for (Constructor<?> c : ListMemory.class.getDeclaredConstructors()) {
            if (isSeen(c)) {
                seen.add(Modifier.toString(c.getModifiers()) + " ListMemory(" + names(c.getParameterTypes()) + ")");
            }
        }
        return seen;
    }

    private static List<String> clashes() {
        List<String> names = new ArrayList<>();
        for (Method m : ListMemory.class.getDeclaredMethods()) {
            if (isSeen(m)) {
                names.add(m.getName());
            }
        }
        List<Class<?>> classes = new ArrayList<>(Arrays.asList(ListMemory.class.getDeclaredClasses()));
        classes.add(ListMemory.class);
        List<String> found = new ArrayList<>();
        for (Class<?> c : classes) {
            for (Method m : c.getDeclaredMethods()) {
                boolean isFace = c == ListMemory.class && isSeen(m);
                if (!isFace && names.contains(m.getName())) {
                    found.add(c.getSimpleName() + "." + m.getName());
                }
            }
        }
        return found;
    }
}
