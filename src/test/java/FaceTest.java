import java.lang.reflect.Constructor;
import java.lang.reflect.Field;
import java.lang.reflect.Method;
import java.lang.reflect.Modifier;
import java.util.Arrays;
import java.util.Set;
import java.util.TreeSet;

/** The class has the document's face, all of it and nothing more. */
public final class FaceTest {
    private static final String[] FACE = {
        "int feed(int,int,int,int,int)", "int why(int) IllegalArgumentException", "int fault()",
        "int weigh(int,int) NoSuchElementException IllegalArgumentException", "int set(int,int) IllegalArgumentException",
        "int fill(int,int) IndexOutOfBoundsException IllegalArgumentException",
        "int state(int,int,int) NoSuchElementException IllegalArgumentException",
        "int cell(int,int,int,int) NoSuchElementException IndexOutOfBoundsException IllegalArgumentException",
        "int run(int,int) NoSuchElementException IllegalArgumentException",
        "int row(int,int,int,int,int) IllegalArgumentException",
        "int asked(int,int) IndexOutOfBoundsException IllegalArgumentException",
        "boolean says(int,int) NoSuchElementException IndexOutOfBoundsException",
        "long odds(int) NoSuchElementException", "int share(int) NoSuchElementException", "int best()",
        "int moved(int,int) NoSuchElementException IndexOutOfBoundsException",
        "int inquiry(int,int) NoSuchElementException IllegalArgumentException",
        "int before(int,int) IllegalArgumentException", "int burnt(int) NoSuchElementException",
        "int option(int,int,int) IllegalArgumentException",
        "boolean safe(int,int,int) NoSuchElementException IllegalArgumentException",
        "int least(int,int) NoSuchElementException IllegalArgumentException", "int all(int) IllegalArgumentException",
        "int next(int) IllegalArgumentException", "int parted(int,int) NoSuchElementException",
        "int order(int,int) NoSuchElementException", "int dry(int) NoSuchElementException", "int image()", "int restore()",
        "int count(int)"};

    public static void main(String[] args) {
        Set<String> wrong = new TreeSet<>();
        Set<String> names = new TreeSet<>();
        Set<String> want = new TreeSet<>(Arrays.asList(FACE));
        for (Method m : MastSparks.class.getDeclaredMethods()) {
            if (!Modifier.isPrivate(m.getModifiers())) {
                names.add(m.getName());
                if (!want.remove(told(m))) {
                    wrong.add("not of the face: " + told(m));
                }
            }
        }
        for (String missing : want) {
            wrong.add("missing: " + missing);
        }
        for (Class<?> c : allClasses()) {
            testNames(c, names, wrong);
        }
        for (Field f : MastSparks.class.getDeclaredFields()) {
            if (!Modifier.isPrivate(f.getModifiers()) && !f.toString().equals("public static final int MastSparks.NONE")) {
                wrong.add("not of the face: " + f);
            }
        }
        Constructor<?>[] makers = MastSparks.class.getDeclaredConstructors();
        if (makers.length != 1 || makers[0].getParameterCount() != 0 || !Modifier.isPublic(makers[0].getModifiers())) {
            wrong.add("the constructor is not the document's");
        }
        if (!Modifier.isFinal(MastSparks.class.getModifiers())) {
            wrong.add("the class is not final");
        }
        wrong.forEach(System.out::println);
        System.out.println("FaceTest: " + (FACE.length - want.size()) + " passed, " + wrong.size() + " failed");
        if (!wrong.isEmpty()) {
            System.exit(1);
        }
    }

    private static Class<?>[] allClasses() {
        Class<?>[] inside = MastSparks.class.getDeclaredClasses();
        Class<?>[] all = Arrays.copyOf(inside, inside.length + 1);
        all[inside.length] = MastSparks.class;
        return all;
    }

    // LANGUAGE.md's rules 1, 5 and 11, as far as the compiled classes tell them.
    private static void testNames(Class<?> c, Set<String> names, Set<String> wrong) {
        int fields = 0;
        for (Field f : c.getDeclaredFields()) {
            if (!Modifier.isStatic(f.getModifiers())) {
                fields++;
            } else if (!Modifier.isFinal(f.getModifiers())) {
                wrong.add("static and not final: " + f);
            }
        }
        if (fields > 20) {
            wrong.add("more than twenty fields: " + c);
        }
        for (Method m : c.getDeclaredMethods()) {
            boolean own = c != MastSparks.class || Modifier.isPrivate(m.getModifiers());
            if (own && names.contains(m.getName())) {
                wrong.add("bears the name of a public one: " + m);
            }
            if (m.getParameterCount() > 7) {
                wrong.add("more than seven parameters: " + m);
            }
        }
    }

    private static String told(Method m) {
        StringBuilder s = new StringBuilder(m.getReturnType().getSimpleName()).append(' ').append(m.getName()).append('(');
        Class<?>[] types = m.getParameterTypes();
        for (int i = 0; i < types.length; i++) {
            s.append(i == 0 ? "" : ",").append(types[i].getSimpleName());
        }
        s.append(')');
        for (Class<?> e : m.getExceptionTypes()) {
            s.append(' ').append(e.getSimpleName());
        }
        if (!Modifier.isPublic(m.getModifiers()) || Modifier.isStatic(m.getModifiers())) {
            s.append(" not public, or static");
        }
        return s.toString();
    }
}
