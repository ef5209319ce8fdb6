import java.lang.reflect.Constructor;
import java.lang.reflect.Field;
import java.lang.reflect.Method;
import java.lang.reflect.Modifier;
import java.util.Arrays;
import java.util.Set;
import java.util.TreeSet;

/** The class has the document's face, and no member besides that others can see. */
public final class FaceTest {
    private static final String[] FACE = {
        "field int NONE",
        "new (int)",
        "void feed(int,int,int,int,int)",
        "int end(int)",
        "int format(int,int,int) IllegalArgumentException",
        "int byteAt(int)",
        "int fault()",
        "int many(int)",
        "int items() IllegalStateException",
        "int letter(int,int) IllegalStateException IndexOutOfBoundsException",
        "long about(int,int) IllegalStateException IndexOutOfBoundsException IllegalArgumentException",
        "int content(int,int) IllegalStateException IndexOutOfBoundsException",
        "int enter(int) IllegalStateException IndexOutOfBoundsException IllegalArgumentException",
        "boolean up() IllegalStateException",
        "int make(boolean) IllegalStateException IllegalArgumentException UnsupportedOperationException",
        "int write(int) IllegalStateException IndexOutOfBoundsException IllegalArgumentException"
            + " UnsupportedOperationException",
        "int grow(int,int,int) IllegalStateException IndexOutOfBoundsException IllegalArgumentException"
            + " UnsupportedOperationException",
        "int cut(int,int) IllegalStateException IndexOutOfBoundsException IllegalArgumentException",
        "void remove(int) IllegalStateException IndexOutOfBoundsException IllegalArgumentException",
        "void stamp(int,int,long) IllegalStateException IndexOutOfBoundsException IllegalArgumentException",
    };

    public static void main(String[] args) {
        Set<String> due = new TreeSet<>(Arrays.asList(FACE));
        Set<String> got = face();
        int wrong = 0;
        for (String member : due) {
            if (!got.contains(member)) {
                System.out.println("the face lacks: " + member);
                wrong++;
            }
        }
        for (String member : got) {
            if (!due.contains(member)) {
                System.out.println("the face has too much: " + member);
                wrong++;
            }
        }
        if (!Modifier.isFinal(InodeDesk.class.getModifiers())) {
            System.out.println("the class is not final");
            wrong++;
        }
        wrong += sharedNames();
        System.out.println("FaceTest: " + wrong + " wrong");
        if (wrong != 0) {
            System.exit(1);
        }
    }

    private static Set<String> face() {
        Set<String> got = new TreeSet<>();
        for (Field field : InodeDesk.class.getDeclaredFields()) {
            if (!Modifier.isPrivate(field.getModifiers())) {
                got.add("field " + field.getType() + " " + field.getName());
            }
        }
        for (Constructor<?> constructor : InodeDesk.class.getDeclaredConstructors()) {
            got.add("new " + list(constructor.getParameterTypes()));
        }
        for (Method method : InodeDesk.class.getDeclaredMethods()) {
            if (!Modifier.isPrivate(method.getModifiers())) {
                StringBuilder line = new StringBuilder();
                line.append(method.getReturnType()).append(' ').append(method.getName());
                line.append(list(method.getParameterTypes()));
                for (Class<?> thrown : method.getExceptionTypes()) {
                    line.append(' ').append(thrown.getSimpleName());
                }
                got.add(line.toString());
            }
        }
        return got;
    }

    private static String list(Class<?>[] types) {
        StringBuilder text = new StringBuilder("(");
        for (int i = 0; i < types.length; i++) {
            text.append(i == 0 ? "" : ",").append(types[i]);
        }
        return text.append(')').toString();
    }

    /** No method inside bears the name of a public one (rule 1 of LANGUAGE.md). */
    private static int sharedNames() {
        Set<String> names = new TreeSet<>();
        for (Method method : InodeDesk.class.getDeclaredMethods()) {
            if (Modifier.isPublic(method.getModifiers())) {
                names.add(method.getName());
            }
        }
        int wrong = 0;
        for (Class<?> inside : InodeDesk.class.getDeclaredClasses()) {
            if (Modifier.isPublic(inside.getModifiers()) || !Modifier.isStatic(inside.getModifiers())) {
                System.out.println("a class inside is public or not static: " + inside.getName());
                wrong++;
            }
            for (Method method : inside.getDeclaredMethods()) {
                if (names.contains(method.getName())) {
                    System.out.println("a method inside bears a public name: " + method);
                    wrong++;
                }
            }
        }
        return wrong;
    }
}
