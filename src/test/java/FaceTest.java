import java.lang.reflect.Constructor;
import java.lang.reflect.Field;
import java.lang.reflect.Method;
import java.lang.reflect.Modifier;
import java.util.Arrays;
import java.util.Set;
import java.util.TreeSet;

/** The public face of the document, and rule 1 of LANGUAGE.md: no other member can be seen. */
public final class FaceTest {
    private static final String[] METHODS = {
        "retype(int,int,int,int)", "copy(int,int,int,int)", "move(int,int)", "delete(int)", "revoke(int)",
        "configure(int,int,int,int)", "run(int,boolean)", "send(int,int,int,boolean)",
        "receive(int,int,boolean)", "signal(int)", "listen(int,boolean)", "map(int,int,int)", "unmap(int)",
        "bind(int,int)", "interrupt(int)", "tick()", "current()", "slot(int,int,int)", "thread(int,int)",
        "page(int,int)"
    };
    private static int wrong;

    public static void main(String[] args) {
        Class<?> face = CapTreeKernel.class;
        check(face.getModifiers() == (Modifier.PUBLIC | Modifier.FINAL), "the class is public and final");
        check(CapTreeKernel.NONE == -1, "NONE is -1");
        checkMethods(face);
        for (Field f : face.getDeclaredFields()) {
            int seen = Modifier.PUBLIC | Modifier.STATIC | Modifier.FINAL;
            boolean none = f.getName().equals("NONE") && f.getModifiers() == seen && f.getType() == int.class;
            check(none || Modifier.isPrivate(f.getModifiers()), "field " + f.getName());
            check(!Modifier.isStatic(f.getModifiers()) || Modifier.isFinal(f.getModifiers()), "static " + f.getName());
        }
        Constructor<?>[] all = face.getDeclaredConstructors();
        check(all.length == 1 && Modifier.isPublic(all[0].getModifiers()) && all[0].getParameterCount() == 0,
            "one constructor");
        Class<?>[] inside = face.getDeclaredClasses();
        check(inside.length <= 12, "at most twelve classes inside");
        for (Class<?> c : inside) {
            check(Modifier.isStatic(c.getModifiers()) && !Modifier.isPublic(c.getModifiers()), "class " + c.getName());
            check(c.getDeclaredFields().length <= 20, "fields of " + c.getName());
        }
        System.out.println(wrong + " faults of the face");
        if (wrong != 0) {
            System.exit(1);
        }
    }

    private static void checkMethods(Class<?> face) {
        Set<String> due = new TreeSet<>(Arrays.asList(METHODS));
        Set<String> names = new TreeSet<>();
        for (String m : METHODS) {
            names.add(m.substring(0, m.indexOf('(')));
        }
        for (Method m : face.getDeclaredMethods()) {
            if (m.isSynthetic()) {
                continue;
            }
            if (Modifier.isPrivate(m.getModifiers())) {
                check(!names.contains(m.getName()), "private method " + m.getName());
                continue;
            }
            String[] types = Arrays.stream(m.getParameterTypes()).map(Class::getName).toArray(String[]::new);
            String text = m.getName() + "(" + String.join(",", types) + ")";
            boolean good = m.getModifiers() == Modifier.PUBLIC && m.getReturnType() == int.class;
            check(good && due.remove(text), "method " + text);
        }
        check(due.isEmpty(), "methods that are missing: " + due);
    }

    private static void check(boolean good, String what) {
        if (!good) {
            wrong++;
            System.out.println("not as due: " + what);
        }
    }
}
