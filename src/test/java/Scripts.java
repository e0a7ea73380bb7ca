import java.lang.reflect.Method;
import java.util.HashMap;
import java.util.Map;

/**
 * Runs scripts, each on a new kernel. A line is one call with the answer that is due, "tick() = 16";
 * a line that begins with # is a remark.
 */
final class Scripts {
    private final Map<String, Method> calls = new HashMap<>();
    private int wrong;
    private int made;

    Scripts() {
        for (Method m : CapTreeKernel.class.getDeclaredMethods()) {
            if (java.lang.reflect.Modifier.isPublic(m.getModifiers())) {
                calls.put(m.getName(), m);
            }
        }
    }

    void run(String title, String script) {
        CapTreeKernel kernel = new CapTreeKernel();
        int number = 0;
        for (String line : script.split("\n")) {
            number++;
            String text = line.trim();
            if (text.isEmpty() || text.startsWith("#")) {
                continue;
            }
            int sign = text.lastIndexOf(" = ");
            int due = Integer.parseInt(text.substring(sign + 3).trim());
            check(title + ", line " + number, kernel, text.substring(0, sign), due);
        }
    }

    private void check(String where, CapTreeKernel kernel, String call, int due) {
        made++;
        try {
            int got = answer(kernel, call);
            if (got != due) {
                wrong++;
                System.out.println(where + ": " + call + " answered " + got + ", due is " + due);
            }
        } catch (ReflectiveOperationException e) {
            wrong++;
            System.out.println(where + ": " + call + " ended with " + e.getCause());
        }
    }

    private int answer(CapTreeKernel kernel, String call) throws ReflectiveOperationException {
        int open = call.indexOf('(');
        String inside = call.substring(open + 1, call.length() - 1).trim();
        String[] parts = inside.isEmpty() ? new String[0] : inside.split(",");
        Method method = calls.get(call.substring(0, open));
        Object[] args = new Object[parts.length];
        for (int i = 0; i < parts.length; i++) {
            String part = parts[i].trim();
            if (method.getParameterTypes()[i] == boolean.class) {
                args[i] = part.equals("true");
            } else {
                args[i] = Integer.parseInt(part);
            }
        }
        return (int) method.invoke(kernel, args);
    }

    void end() {
        System.out.println(made + " calls, " + wrong + " answers not as due");
        if (wrong != 0) {
            System.exit(1);
        }
    }
}
