import java.util.ArrayList;
import java.util.List;

/**
 * Runs scripts, each on a new kernel. A line is one call with the answer that is due, "tick() = 16"; a line
 * that begins with # is a remark. Of each call that is refused it is looked at, too, that it changed nothing,
 * and of the state at the end that it keeps to what the document says of every state.
 */
final class Scripts {
    private int wrong;
    private int made;
    private int refused;

    Scripts() {
        Watchdog.start();
    }

    void run(String title, String script) {
        List<Call> calls = new ArrayList<>();
        List<Integer> answers = new ArrayList<>();
        for (String line : script.split("\n")) {
            String text = line.trim();
            if (text.isEmpty() || text.startsWith("#")) {
                continue;
            }
            int sign = text.lastIndexOf(" = ");
            calls.add(new Call(text.substring(0, sign)));
            answers.add(Integer.valueOf(text.substring(sign + 3).trim()));
        }
        try {
            checkAnswers(title, calls, answers);
            checkRefusals(title, calls, answers);
            checkEnd(title, calls);
        } catch (IllegalStateException e) {
            report(title, e.getMessage());
        }
    }

    /** The script with each of the values in the place of @, on a new kernel each time. */
    void each(String title, String script, String values) {
        for (String value : values.trim().split(" +")) {
            run(title + " [@ = " + value + "]", script.replace("@", value));
        }
    }

    private void checkAnswers(String title, List<Call> calls, List<Integer> answers) {
        if (calls.size() > Picture.MOST_CALLS) {
            report(title, "the script has more calls than the document allows");
        }
        CapTreeKernel kernel = new CapTreeKernel();
        for (int i = 0; i < calls.size(); i++) {
            made++;
            int got = calls.get(i).on(kernel);
            if (got != answers.get(i)) {
                report(title, "call " + (i + 1) + ", " + calls.get(i).text + " answered " + got
                    + ", due is " + answers.get(i));
            }
        }
    }

    private void checkRefusals(String title, List<Call> calls, List<Integer> answers) {
        Picture last = null;
        for (int i = 0; i < calls.size(); i++) {
            if (!calls.get(i).isRefusedBy(answers.get(i))) {
                last = null;
                continue;
            }
            refused++;
            Picture before = last == null ? Picture.after(calls.subList(0, i)) : last;
            last = Picture.after(calls.subList(0, i + 1));
            String difference = last.differenceFrom(before);
            if (difference != null) {
                report(title, "call " + (i + 1) + ", " + calls.get(i).text + " was refused, but then "
                    + difference + " without it");
            }
        }
    }

    private void checkEnd(String title, List<Call> calls) {
        if (calls.size() >= Picture.MOST_CALLS) {
            return;
        }
        for (String sentence : Invariants.brokenIn(Picture.afterByQuestions(calls))) {
            report(title, "in the end this does not hold: " + sentence);
        }
    }

    private void report(String title, String what) {
        wrong++;
        System.out.println(title + ": " + what);
    }

    void end() {
        System.out.println(made + " calls, " + refused + " of them refused; " + wrong + " are not as due");
        if (wrong != 0) {
            System.exit(1);
        }
    }
}
