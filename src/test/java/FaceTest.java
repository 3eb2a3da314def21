import java.lang.reflect.Constructor;
import java.lang.reflect.Field;
import java.lang.reflect.Method;
import java.lang.reflect.Modifier;
import java.util.Set;
import java.util.TreeSet;

/** The class has the face of the document: these members, with these exceptions, and no others. */
public final class FaceTest {
    private static final String[] DUE = {
        "PathProver()",
        "int feed(int,int,int,int,int) IndexOutOfBoundsException",
        "int end(int) IllegalArgumentException",
        "int read() IllegalArgumentException UnsupportedOperationException IndexOutOfBoundsException",
        "int place()",
        "boolean check(int) IllegalArgumentException IllegalStateException",
        "int states(int,int) IllegalArgumentException IllegalStateException",
        "int count(int) IllegalArgumentException IllegalStateException",
        "int show(int) IllegalArgumentException IllegalStateException UnsupportedOperationException IndexOutOfBoundsException",
        "int pick(int) IllegalArgumentException IllegalStateException IndexOutOfBoundsException",
        "int first(int) IllegalArgumentException IllegalStateException IndexOutOfBoundsException",
        "int step(int) IllegalArgumentException IllegalStateException UnsupportedOperationException IndexOutOfBoundsException",
        "int value(int) IllegalArgumentException IllegalStateException UnsupportedOperationException",
        "boolean holds(int) IllegalArgumentException IllegalStateException UnsupportedOperationException",
        "int tidy(int) IllegalArgumentException IllegalStateException",
        "int faults(int) IllegalArgumentException"};

    private static String told(String head, Class<?>[] takes, Class<?>[] throwsThese) {
        StringBuilder all = new StringBuilder(head).append('(');
        for (int i = 0; i < takes.length; i++) {
            all.append(i == 0 ? "" : ",").append(takes[i].getSimpleName());
        }
        all.append(')');
        for (Class<?> one : throwsThese) {
            all.append(' ').append(one.getSimpleName());
        }
        return all.toString();
    }

    public static void main(String[] args) {
        Set<String> found = new TreeSet<>();
        Class<?> c = PathProver.class;
        for (Constructor<?> one : c.getDeclaredConstructors()) {
            found.add(told("PathProver", one.getParameterTypes(), one.getExceptionTypes()));
        }
        for (Method one : c.getDeclaredMethods()) {
            if (!Modifier.isPrivate(one.getModifiers())) {
                found.add(told(one.getReturnType().getSimpleName() + " " + one.getName(),
                        one.getParameterTypes(), one.getExceptionTypes()));
            }
        }
        for (Field one : c.getDeclaredFields()) {
            if (!Modifier.isPrivate(one.getModifiers())) {
                found.add("field " + one.getName());
            }
            if (Modifier.isStatic(one.getModifiers()) && !Modifier.isFinal(one.getModifiers())) {
                found.add("static state " + one.getName());
            }
        }
        for (Class<?> one : c.getDeclaredClasses()) {
            int m = one.getModifiers();
            if (!Modifier.isStatic(m) || Modifier.isPublic(m) || Modifier.isProtected(m)) {
                found.add("class " + one.getName());
            }
        }
        if (!Modifier.isFinal(c.getModifiers()) || !Modifier.isPublic(c.getModifiers())) {
            found.add("the class is not public and final");
        }
        Set<String> due = new TreeSet<>(Set.of(DUE));
        if (!found.equals(due)) {
            Set<String> more = new TreeSet<>(found);
            more.removeAll(due);
            due.removeAll(found);
            System.out.println("too much: " + more + ", lacking: " + due);
            System.exit(1);
        }
        System.out.println("the face is as due");
    }
}
