import java.io.IOException;
import java.lang.reflect.InvocationTargetException;
import java.lang.reflect.Method;
import java.lang.reflect.Modifier;
import java.nio.file.Files;
import java.nio.file.Path;
import java.util.ArrayList;
import java.util.List;
import java.util.regex.Matcher;
import java.util.regex.Pattern;

/** The README's example, read from it and carried out, answers what stands behind its calls. */
public final class ReadmeTest {
    private static final Pattern NEW = Pattern.compile("InodeDesk desk = new InodeDesk\\((\\d+)\\); +// .+");
    private static final Pattern CALL = Pattern.compile("desk\\.(\\w+)\\((.*)\\); +// (.+)");
    private static final Pattern ANSWER = Pattern.compile("(-?\\d+|true|false)\\b.*");
    private static int wrong = 0;

    public static void main(String[] args) throws IOException, IllegalAccessException {
        String text = Files.readString(Path.of("README.md"));
        InodeDesk desk = null;
        int calls = 0;
        for (String line : example(text)) {
            Matcher made = NEW.matcher(line);
            Matcher called = CALL.matcher(line);
            if (made.matches()) {
                desk = new InodeDesk(Integer.parseInt(made.group(1)));
            } else if (desk != null && called.matches()) {
                carryOut(desk, called);
                calls++;
            } else {
                fail("can't be carried out: " + line);
            }
        }
        if (calls == 0) {
            fail("the README has no example");
        }
        everyCallIsNamed(text);
        System.out.println("ReadmeTest: " + calls + " calls, " + wrong + " wrong");
        if (wrong != 0) {
            System.exit(1);
        }
    }

    private static void fail(String what) {
        wrong++;
        System.out.println(what);
    }

    private static List<String> example(String text) {
        List<String> lines = new ArrayList<>();
        boolean inside = false;
        for (String line : text.split("\n")) {
            if (line.startsWith("```")) {
                inside = line.equals("```java");
            } else if (inside) {
                lines.add(line);
            }
        }
        return lines;
    }

    private static void carryOut(InodeDesk desk, Matcher called) throws IllegalAccessException {
        String call = called.group(1) + "(" + called.group(2) + ")";
        Method method = publicMethod(called.group(1));
        if (method == null) {
            fail(call + ": the class has no such call");
            return;
        }
        Object got;
        try {
            got = method.invoke(desk, arguments(method, called.group(2)));
        } catch (InvocationTargetException | IllegalArgumentException e) {
            fail(call + " gave " + e + " " + e.getCause());
            return;
        }
        if (method.getReturnType() != void.class) {
            Matcher due = ANSWER.matcher(called.group(3));
            String told = due.matches() ? due.group(1) : "nothing";
            if (!told.equals(String.valueOf(got))) {
                fail(call + " answered " + got + ", the README tells " + told);
            }
        }
    }

    private static Method publicMethod(String name) {
        for (Method method : InodeDesk.class.getDeclaredMethods()) {
            if (Modifier.isPublic(method.getModifiers()) && method.getName().equals(name)) {
                return method;
            }
        }
        return null;
    }

    private static Object[] arguments(Method method, String text) {
        String[] words = text.isEmpty() ? new String[0] : text.split(", ");
        Class<?>[] types = method.getParameterTypes();
        Object[] values = new Object[words.length];
        for (int i = 0; i < words.length; i++) {
            Class<?> type = i < types.length ? types[i] : void.class;
            if (type == boolean.class) {
                values[i] = Boolean.valueOf(words[i]);
            } else if (type == long.class) {
                values[i] = Long.decode(words[i]);
            } else {
                values[i] = Integer.decode(words[i]);
            }
        }
        return values;
    }

    private static void everyCallIsNamed(String text) {
        for (Method method : InodeDesk.class.getDeclaredMethods()) {
            if (Modifier.isPublic(method.getModifiers()) && !text.contains("`" + method.getName() + "(")) {
                fail("the README does not tell of " + method.getName());
            }
        }
    }
}
