import java.lang.reflect.InvocationTargetException;
import java.lang.reflect.Method;
import java.util.HashMap;
import java.util.Map;

/** One call of the face, such as "copy(1, 4, 7, 0)", which can be made on any kernel and on the model. */
final class Call {
    private static final Map<String, Method> KERNEL = methodsOf(CapTreeKernel.class);
    private static final Map<String, Method> MODEL = methodsOf(Model.class);

    final String text;
    final String name;
    private final Object[] args;

    Call(String text) {
        this.text = text;
        int open = text.indexOf('(');
        name = text.substring(0, open);
        String inside = text.substring(open + 1, text.length() - 1).trim();
        String[] parts = inside.isEmpty() ? new String[0] : inside.split(",");
        args = new Object[parts.length];
        for (int i = 0; i < parts.length; i++) {
            args[i] = valueOf(parts[i].trim());
        }
    }

    private static Object valueOf(String part) {
        boolean isFlag = part.equals("true") || part.equals("false");
        return isFlag ? (Object) Boolean.valueOf(part) : (Object) Integer.valueOf(part);
    }

    private static Map<String, Method> methodsOf(Class<?> type) {
        Map<String, Method> found = new HashMap<>();
        for (Method m : CapTreeKernel.class.getMethods()) {
            if (m.getDeclaringClass() != CapTreeKernel.class) {
                continue;
            }
            try {
                found.put(m.getName(), type.getDeclaredMethod(m.getName(), m.getParameterTypes()));
            } catch (NoSuchMethodException e) {
                throw new IllegalStateException(e);
            }
        }
        return found;
    }

    int on(CapTreeKernel kernel) {
        return make(KERNEL.get(name), kernel);
    }

    int on(Model model) {
        return make(MODEL.get(name), model);
    }

    private int make(Method method, Object target) {
        try {
            return (int) method.invoke(target, args);
        } catch (InvocationTargetException e) {
            throw new IllegalStateException(text + " ended with " + e.getCause(), e.getCause());
        } catch (IllegalAccessException e) {
            throw new IllegalStateException(e);
        }
    }

    boolean isQuestion() {
        return name.equals("current") || name.equals("slot") || name.equals("thread") || name.equals("page");
    }

    /** Whether the answer says that the call has changed nothing. */
    boolean isRefusedBy(int answer) {
        if (name.equals("interrupt")) {
            return answer == 0;
        }
        return !isQuestion() && !name.equals("tick") && answer >= 1 && answer <= 8;
    }
}
