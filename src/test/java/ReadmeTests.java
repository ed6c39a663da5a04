import java.lang.reflect.InvocationTargetException;
import java.lang.reflect.Method;
import java.nio.file.Files;
import java.nio.file.Path;
import java.util.ArrayList;
import java.util.List;
import java.util.regex.Matcher;
import java.util.regex.Pattern;

/** Makes the calls of the README's example, and compares what they answer with what it says. */
public final class ReadmeTests {
    private static final String FIRST_LINE = "ListMemory m = new ListMemory();";
    private static final Pattern CALL =
            Pattern.compile("m\\.(\\w+)\\(([^)]*)\\);(?:\\s*// (.*))?");
    private static final Pattern DUE = Pattern.compile("(answers|throws) (-?\\w+).*");
    private static final int LEAST_CALLS = 20;

    private static int wrong = 0;

    public static void main(String[] args) throws Exception {
        List<String> example = exampleLines(Files.readAllLines(Path.of("README.md")));
        ListMemory m = new ListMemory();
        for (String line : example) {
            makeCall(m, line);
        }
        if (example.size() < LEAST_CALLS) {
            complain("README.md", "an example", example.size() + " calls");
        }
        System.out.println(example.size() + " calls of README.md, " + wrong + " wrong");
        if (wrong > 0) {
            System.exit(1);
        }
    }

    private static List<String> exampleLines(List<String> lines) {
        List<String> example = new ArrayList<>();
        boolean inside = false;
        for (String line : lines) {
            if (inside && line.startsWith("```")) {
                return example;
            }
            if (inside) {
                example.add(line);
            }
            inside = inside || line.equals(FIRST_LINE);
        }
        return example;
    }

    private static void makeCall(ListMemory m, String line) throws Exception {
        Matcher call = CALL.matcher(line);
        if (!call.matches()) {
            complain(line, "a call", "a line that can't be read");
            return;
        }
        String answered = answerOf(m, call.group(1), call.group(2).isEmpty()
                ? new String[0] : call.group(2).split(", "));
        String said = said(call.group(3));
        if (!answered.equals(said)) {
            complain(line, said, answered);
        }
    }

    /** A line that says neither an answer nor an exception is a call without an answer. */
    private static String said(String comment) {
        Matcher due = DUE.matcher(comment == null ? "" : comment);
        return due.matches() ? due.group(1) + " " + due.group(2) : "nothing";
    }

    private static String answerOf(ListMemory m, String name, String[] texts) throws Exception {
        Method method = methodOf(name, texts.length);
        Class<?>[] types = method.getParameterTypes();
        Object[] values = new Object[texts.length];
        for (int i = 0; i < values.length; i++) {
            if (types[i] == long.class) {
                values[i] = Long.valueOf(texts[i]);
            } else {
                values[i] = Integer.valueOf(texts[i]);
            }
        }
        try {
            Object answer = method.invoke(m, values);
            return method.getReturnType() == void.class ? "nothing" : "answers " + answer;
        } catch (InvocationTargetException e) {
            return "throws " + e.getCause().getClass().getSimpleName();
        }
    }

    private static Method methodOf(String name, int parameters) throws NoSuchMethodException {
        for (Method method : ListMemory.class.getDeclaredMethods()) {
            if (method.getName().equals(name) && method.getParameterCount() == parameters) {
                return method;
            }
        }
        throw new NoSuchMethodException(name);
    }

    private static void complain(String where, String due, String got) {
        wrong++;
        System.out.println(where + ": got " + got + ", due is " + due);
    }
}
