import java.util.ArrayList;
import java.util.List;

/**
 * All that can be learnt of a kernel after some calls: the answers of all questions, and of calls that bring
 * to light what no question tells: who waits where, the words of bells, the bound lines, the order of threads.
 * Each part is asked of a new kernel that has made those calls, so that none is used for more than 512.
 */
final class Picture {
    static final int MOST_CALLS = 512;
    /** All slots that there can be: slot i of the table at unit t is place t + i. */
    static final int PLACES = 128;
    /** Threads begin at multiples of 8: the thread at unit 8 * t is number t. */
    static final int THREADS = 16;
    private static final int WHATS = 8;
    private static final int PAGES = 16;
    static final List<Call> QUESTIONS = questions();
    private static final List<List<Call>> PROBES = probes();

    private final List<Call> asked = new ArrayList<>();
    private final List<Integer> answers = new ArrayList<>();

    private Picture() {
    }

    static Picture after(List<Call> calls) {
        Picture p = afterByQuestions(calls);
        for (List<Call> probe : PROBES) {
            p.ask(calls, probe);
        }
        return p;
    }

    static Picture afterByQuestions(List<Call> calls) {
        Picture p = new Picture();
        int part = MOST_CALLS - calls.size();
        for (int from = 0; from < QUESTIONS.size(); from += part) {
            p.ask(calls, QUESTIONS.subList(from, Math.min(QUESTIONS.size(), from + part)));
        }
        return p;
    }

    static Picture of(Model model) {
        Picture p = new Picture();
        for (Call c : QUESTIONS) {
            p.note(c, c.on(model));
        }
        return p;
    }

    /** The first call whose answer differs, with both answers; null when all are the same. */
    String differenceFrom(Picture other) {
        for (int i = 0; i < answers.size(); i++) {
            int here = answers.get(i);
            int there = other.answers.get(i);
            if (here != there) {
                return asked.get(i).text + " answers " + here + " and " + there;
            }
        }
        return null;
    }

    int slot(int place, int what) {
        return answers.get(place * WHATS + what);
    }

    int thread(int t, int what) {
        return answers.get((PLACES + t) * WHATS + what);
    }

    int page(int t, int at) {
        return answers.get((PLACES + THREADS) * WHATS + t * PAGES + at);
    }

    int current() {
        return answers.get((PLACES + THREADS) * WHATS + THREADS * PAGES);
    }

    private void ask(List<Call> calls, List<Call> more) {
        if (calls.size() + more.size() > MOST_CALLS) {
            throw new IllegalArgumentException("more calls than the document allows");
        }
        CapTreeKernel kernel = new CapTreeKernel();
        for (Call c : calls) {
            c.on(kernel);
        }
        for (Call c : more) {
            note(c, c.on(kernel));
        }
    }

    private void note(Call call, int answer) {
        asked.add(call);
        answers.add(answer);
    }

    private static List<Call> questions() {
        List<Call> list = new ArrayList<>();
        for (int place = 0; place < PLACES; place++) {
            for (int what = 0; what < WHATS; what++) {
                list.add(new Call("slot(" + place / 16 * 16 + ", " + place % 16 + ", " + what + ")"));
            }
        }
        addThreadQuestions(list, WHATS);
        for (int t = 0; t < THREADS; t++) {
            for (int at = 0; at < PAGES; at++) {
                list.add(new Call("page(" + 8 * t + ", " + at + ")"));
            }
        }
        list.add(new Call("current()"));
        return list;
    }

    private static void addThreadQuestions(List<Call> list, int whats) {
        for (int t = 0; t < THREADS; t++) {
            for (int what = 0; what < whats; what++) {
                list.add(new Call("thread(" + 8 * t + ", " + what + ")"));
            }
        }
    }

    private static List<List<Call>> probes() {
        List<List<Call>> all = new ArrayList<>();
        all.add(probe("interrupt(@)", 4, 1));
        all.add(probe("listen(@, false)", 16, 1));
        all.add(probe("signal(@)", 16, 1));
        all.add(probe("receive(@, 15, false)", 16, 2));
        all.add(probe("send(@, 7, 1, false)", 16, 2));
        all.add(probe("tick()", 24, 1));
        return all;
    }

    /** The call with each number below the bound, some times over, and then what the threads have got. */
    private static List<Call> probe(String text, int bound, int times) {
        List<Call> list = new ArrayList<>();
        for (int n = 0; n < bound * times; n++) {
            list.add(new Call(text.replace("@", String.valueOf(n / times))));
            list.add(new Call("current()"));
        }
        addThreadQuestions(list, 5);
        return list;
    }
}
