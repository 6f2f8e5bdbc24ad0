import java.util.ArrayList;
import java.util.LinkedHashMap;
import java.util.List;
import java.util.Map;

/**
 * A desk under test. It keeps the calls that it had, so that all it shows can be read from new
 * desks that had the same calls: no desk has more calls than the document promises answers for.
 */
final class Probe {
    static final String ILLEGAL_ARGUMENT = "IllegalArgumentException";
    static final String ILLEGAL_STATE = "IllegalStateException";
    static final String NO_SUCH_ELEMENT = "NoSuchElementException";
    static final String OUT_OF_BOUNDS = "IndexOutOfBoundsException";
    /** Stands for a part of the state that a test says nothing of. */
    static final String ANY = "any";
    static final int MOST_CALLS = 512;
    /** What a desk from used() was made of; wrong() is 0 there. */
    static final String USED_MAPPING = "a.Old -> o:\n    m -> n\n    k -> n\n";
    static final String USED_TRACE = "o: 7\n\tat o.n(S)\n";

    private static final int MOST_TO_READ = 100;
    private static final String SHORT_TEXT = "o\n\tat o.n(S)\nCaused by: x\n\tat x.n(S:1)\n"
            + "\tat x.n(S)";
    private static final String REAL_TEXT = "a.Old\n\tat a.Old.k(S)\nCaused by: A\n\tat A.m(S:1)\n"
            + "\tat A.m(S)";
    private static String sentence = "";
    private static int sentences = 0;
    private static int checks = 0;
    private static int failures = 0;

    private final RetraceDesk desk = new RetraceDesk();
    private final List<Call> calls = new ArrayList<>();

    /** One call of the face; a boolean or a number is its answer, "" if it has none. */
    interface Call {
        Object on(RetraceDesk desk);
    }

    /** The words of the document that the checks behind this are about. */
    static void sentence(String words) {
        sentence = words;
        sentences++;
    }

    static void same(String what, Object got, Object due) {
        checks++;
        if (!got.equals(due)) {
            failures++;
            System.out.println("[" + sentence + "]\n" + what + "\n  answered: " + got
                    + "\n  due is:   " + due);
        }
    }

    static void finish(String test) {
        System.out.println(test + ": " + sentences + " sentences, " + (checks - failures)
                + " checks of " + checks + " hold");
        if (failures != 0) {
            System.exit(1);
        }
    }

    static long codes(String text) {
        long codes = 0;
        for (int i = 0; i < text.length(); i++) {
            codes = codes << 8 | text.charAt(i);
        }
        return codes;
    }

    /** The answer as a text, or the name of what was thrown. */
    static String answer(RetraceDesk desk, Call call) {
        try {
            return String.valueOf(call.on(desk));
        } catch (RuntimeException e) {
            return e.getClass().getSimpleName();
        }
    }

    static Probe loaded(String mapping) {
        Probe probe = new Probe();
        String answer = probe.load(mapping);
        same("load() of\n" + mapping + "\nis a number: " + answer, answer.matches("[0-9]+"), true);
        return probe;
    }

    /** A desk with something to lose: a mapping, a print, a doubtful frame and a crash. */
    static Probe used() {
        Probe probe = loaded(USED_MAPPING);
        same("report() of\n" + USED_TRACE, probe.report(USED_TRACE), "0");
        return probe;
    }

    String ask(Call call) {
        calls.add(call);
        if (calls.size() > MOST_CALLS - MOST_TO_READ) {
            throw new AssertionError("a test with too many calls on one desk");
        }
        return answer(desk, call);
    }

    String put(int n, long codes) {
        return ask(d -> d.put(n, codes));
    }

    String put(String text) {
        return put(text.length(), codes(text));
    }

    Probe type(String text) {
        for (int i = 0; i < text.length(); i += 8) {
            String piece = text.substring(i, Math.min(i + 8, text.length()));
            same("put of a piece of\n" + text, put(piece), "true");
        }
        return this;
    }

    void scrap() {
        ask(d -> {
            d.scrap();
            return "";
        });
    }

    String load(String text) {
        return type(text).ask(RetraceDesk::load);
    }

    String retrace(String text) {
        return type(text).ask(RetraceDesk::retrace);
    }

    String shorten(String text) {
        return type(text).ask(RetraceDesk::shorten);
    }

    String report(String text) {
        return type(text).ask(RetraceDesk::report);
    }

    /** One of the three that read a trace, by its name. */
    String read(String name, String text) {
        switch (name) {
            case "retrace":
                return retrace(text);
            case "shorten":
                return shorten(text);
            default:
                return report(text);
        }
    }

    String wrong() {
        return ask(RetraceDesk::wrong);
    }

    String length() {
        return ask(RetraceDesk::length);
    }

    String at(int i) {
        return ask(d -> d.at(i));
    }

    String doubtful() {
        return ask(RetraceDesk::doubtful);
    }

    String groups(int line) {
        return ask(d -> d.groups(line));
    }

    String crashes() {
        return ask(RetraceDesk::crashes);
    }

    String key(int crash) {
        return ask(d -> d.key(crash));
    }

    String reports(int crash, int which) {
        return ask(d -> d.reports(crash, which));
    }

    /** A new desk that had the same calls. */
    private RetraceDesk copy() {
        RetraceDesk copy = new RetraceDesk();
        for (Call call : calls) {
            answer(copy, call);
        }
        return copy;
    }

    String print() {
        int most = MOST_CALLS - calls.size() - 1;
        RetraceDesk copy = copy();
        int length = copy.length();
        StringBuilder text = new StringBuilder();
        for (int i = 0; i < length; i++) {
            if (i > 0 && i % most == 0) {
                copy = copy();
            }
            text.append((char) copy.at(i));
        }
        return text.toString();
    }

    /** How many characters the draft has: as many as it does not take any more. */
    private String draftSize() {
        RetraceDesk copy = copy();
        int free = 0;
        while (free <= 600 && copy.put(8, codes("        "))) {
            free += 8;
        }
        while (free <= 600 && copy.put(1, ' ')) {
            free++;
        }
        return Integer.toString(600 - free);
    }

    private String allGroups() {
        RetraceDesk copy = copy();
        StringBuilder text = new StringBuilder();
        for (int i = 0; i < 9; i++) {
            int line = i;
            String answer = answer(copy, d -> d.groups(line));
            if (answer.equals(NO_SUCH_ELEMENT)) {
                break;
            }
            text.append(i == 0 ? "" : ",").append(answer);
        }
        return text.toString();
    }

    private String allCrashes() {
        RetraceDesk copy = copy();
        int crashes = copy.crashes();
        StringBuilder text = new StringBuilder();
        for (int i = 0; i < crashes; i++) {
            text.append(i == 0 ? "" : ", ").append(copy.key(i)).append(' ').append(copy.reports(i, 0))
                    .append(' ').append(copy.reports(i, 1)).append(' ').append(copy.reports(i, 2));
        }
        return text.toString();
    }

    /** What the mapping makes of some texts, both ways; what is thrown if there is none. */
    private String renames() {
        return renamed("retrace", SHORT_TEXT) + renamed("shorten", REAL_TEXT);
    }

    private String renamed(String name, String text) {
        Probe copy = new Probe();
        for (Call call : calls) {
            copy.ask(call);
        }
        copy.scrap();
        String answer = copy.read(name, text);
        return answer.equals(ILLEGAL_STATE) ? answer : answer + " " + copy.print();
    }

    /** All that the object shows, by the calls that show it. */
    Map<String, String> state() {
        RetraceDesk copy = copy();
        Map<String, String> state = new LinkedHashMap<>();
        state.put("draft", draftSize());
        state.put("groups", allGroups());
        state.put("renames", renames());
        state.put("wrong", answer(copy, RetraceDesk::wrong));
        state.put("doubtful", answer(copy, RetraceDesk::doubtful));
        state.put("crashes", allCrashes());
        state.put("print", print());
        return state;
    }

    /** The state is the one from before, but for the changes: names, and what is due there. */
    void shows(String what, Map<String, String> before, String... changes) {
        Map<String, String> due = new LinkedHashMap<>(before);
        for (int i = 0; i < changes.length; i += 2) {
            due.put(changes[i], changes[i + 1]);
        }
        Map<String, String> got = state();
        for (Map.Entry<String, String> one : due.entrySet()) {
            if (!one.getValue().equals(ANY)) {
                same(one.getKey() + " behind " + what, got.get(one.getKey()), one.getValue());
            }
        }
    }

    /** A mapping that load() takes, with its groups by class lines, such as "2,0,1". */
    static void isMapping(String text, String groups) {
        int all = 0;
        for (String one : groups.isEmpty() ? new String[0] : groups.split(",")) {
            all += Integer.parseInt(one);
        }
        Probe probe = used();
        Map<String, String> before = probe.state();
        same("load() of\n" + text, probe.load(text), Integer.toString(all));
        probe.shows("load() of\n" + text, before, "groups", groups, "renames", ANY);
    }

    /** A mapping that load() refuses, and its first wrong line. */
    static void isNoMapping(String text, int line) {
        Probe probe = used();
        Map<String, String> before = probe.state();
        same("load() of\n" + text, probe.load(text), ILLEGAL_ARGUMENT);
        probe.shows("load() of\n" + text, before, "wrong", Integer.toString(line));
    }

    /** A trace; where the mapping is empty it is written as it is. */
    static void isTrace(String text, int frames) {
        String print = text.endsWith("\n") ? text : text + "\n";
        for (String name : new String[] {"retrace", "shorten", "report"}) {
            Probe probe = loaded("");
            Map<String, String> before = probe.state();
            same(name + "() of\n" + text, probe.read(name, text),
                    name.equals("report") ? "0" : Integer.toString(frames));
            probe.shows(name + "() of\n" + text, before, "print", print,
                    "crashes", name.equals("report") ? ANY : "");
        }
    }

    /** A text that no reader of traces takes, whether there is a mapping or not. */
    static void isNoTrace(String text, int line) {
        for (String name : new String[] {"retrace", "shorten", "report"}) {
            for (Probe probe : new Probe[] {used(), new Probe()}) {
                Map<String, String> before = probe.state();
                same(name + "() of\n" + text, probe.read(name, text), ILLEGAL_ARGUMENT);
                probe.shows(name + "() of\n" + text, before, "wrong", Integer.toString(line));
            }
        }
    }

    void retraces(String trace, String frames, String print) {
        Map<String, String> before = state();
        same("retrace() of\n" + trace, retrace(trace), frames);
        shows("retrace() of\n" + trace, before, "draft", "0", "print", print, "doubtful", ANY);
    }

    void shortens(String trace, String frames, String print) {
        Map<String, String> before = state();
        same("shorten() of\n" + trace, shorten(trace), frames);
        shows("shorten() of\n" + trace, before, "draft", "0", "print", print);
    }
}
