import java.util.ArrayList;
import java.util.List;
import java.util.Random;
import java.util.function.IntSupplier;

/** All promises: random runs of calls, the same every time, on a desk and on the plain model. */
public final class ModelTest {
    private static final int RUNS = 20000;
    private static final int MOST_TO_COMPARE = 40;
    private static final String[] REALS = {"A", "B", "a.Main", "a.Main$In", "$C", "b.D1", "e.F_2",
        "a.very.long.pack.of.parts.and.TheClass$X", "x.a", "c"};
    private static final String[] BRIEFS = {"x.a", "x.b", "c", "d", "A", "a.a", "q7", "z.z.z", "B"};
    private static final String[] METHODS = {"a", "b", "run", "go", "m1", "$x", "help"};
    private static final String[] WRONG_LINES = {"", "x", "\tat b(C)", "\tat a.b(C:)", "    m ->",
        "a -> b", "    01:2:m -> n", " ", "#", "\t", "Caused by: ", "\t... x more", "a:b", "A -> A:",
        "    2:1:m -> n", "    m:1 -> n", "\tat a.b(C.d.e)", "a -> b: ", "\tat 1.b(C)"};
    private static final String CODES = "ab1.$: \n\t()->#0";

    private final Random random;
    private final RetraceDesk desk = new RetraceDesk();
    private final PlainModel model = new PlainModel();
    private final StringBuilder story = new StringBuilder();
    private int calls = 0;

    private ModelTest(long seed) {
        random = new Random(seed);
    }

    public static void main(String[] args) {
        Probe.sentence("All promises, in random runs");
        int[] kinds = new int[4];
        for (int run = 0; run < RUNS; run++) {
            new ModelTest(run).play(kinds);
        }
        System.out.println("answered " + kinds[0] + ", wrong lines " + kinds[1] + ", states "
                + kinds[2] + ", other " + kinds[3]);
        Probe.same("enough of each kind", kinds[0] > 40000 && kinds[1] > 4000 && kinds[2] > 500
                && kinds[3] == 0, true);
        Probe.finish("ModelTest");
    }

    private void play(int[] kinds) {
        int steps = 3 + random.nextInt(12);
        boolean isLate = random.nextInt(10) == 0;
        boolean goesOn = true;
        for (int step = 0; step < steps && goesOn; step++) {
            int what = step == 0 && !isLate ? 0 : random.nextInt(10);
            if (what < 2) {
                goesOn = compare("load", mapping(), RetraceDesk::load, model::load, kinds);
            } else if (what < 5) {
                goesOn = compare("retrace", trace(BRIEFS), RetraceDesk::retrace, model::retrace, kinds);
            } else if (what < 7) {
                goesOn = compare("shorten", trace(REALS), RetraceDesk::shorten, model::shorten, kinds);
            } else if (what < 8 && random.nextInt(3) == 0 && calls < Probe.MOST_CALLS) {
                ask(d -> {
                    d.scrap();
                    return "";
                });
                model.draft = "";
            } else if (what < 8) {
                goesOn = compare("shorten", model.print.length() > 600 ? "a" : model.print,
                        RetraceDesk::shorten, model::shorten, kinds);
            } else {
                goesOn = compare("report", random.nextBoolean() ? trace(BRIEFS) : pick(REALS) + ": "
                        + pick(METHODS), RetraceDesk::report, model::report, kinds);
            }
            if (goesOn && calls + MOST_TO_COMPARE <= Probe.MOST_CALLS) {
                compareState();
            }
        }
        int start = random.nextInt(model.print.length() + 1);
        for (int i = 0; i < model.print.length() && calls < Probe.MOST_CALLS; i++) {
            compareCharacter((start + i) % model.print.length());
        }
    }

    private String pick(String[] all) {
        return all[random.nextInt(all.length)];
    }

    private String ask(Probe.Call call) {
        calls++;
        return Probe.answer(desk, call);
    }

    /** Answers false when the desk has had nearly as many calls as it may. */
    private boolean compare(String name, String text, Probe.Call call, IntSupplier due, int[] kinds) {
        String draft = random.nextInt(12) == 0 ? spoiled(text) : text;
        List<String> pieces = new ArrayList<>();
        for (int i = 0; i < draft.length();) {
            int n = random.nextInt(3) > 0 ? 8 : 1 + random.nextInt(8);
            pieces.add(draft.substring(i, Math.min(i + n, draft.length())));
            i += n;
        }
        if (calls + pieces.size() + 1 + MOST_TO_COMPARE > Probe.MOST_CALLS) {
            return false;
        }
        for (String piece : pieces) {
            int n = piece.length();
            long codes = n == 8 ? Probe.codes(piece)
                    : Probe.codes(piece) | random.nextLong() << (8 * n);
            check("put", ask(d -> d.put(n, codes)), Boolean.toString(model.put(n, codes)));
        }
        story.append("--- ").append(name).append('\n').append(draft).append("|\n");
        String got = ask(call);
        kinds[got.matches("-?[0-9]+") ? 0 : got.equals(Probe.ILLEGAL_ARGUMENT) ? 1
                : got.equals(Probe.ILLEGAL_STATE) ? 2 : 3]++;
        check(name, got, outcome(due));
        return true;
    }

    private static String outcome(IntSupplier call) {
        try {
            return Integer.toString(call.getAsInt());
        } catch (PlainModel.WrongLine e) {
            return Probe.ILLEGAL_ARGUMENT;
        } catch (IllegalStateException e) {
            return Probe.ILLEGAL_STATE;
        }
    }

    private void check(String what, String got, Object due) {
        if (!got.equals(due.toString())) {
            Probe.same(story + what, got, due.toString());
        }
    }

    private void compareCharacter(int i) {
        check("at(" + i + ")", ask(d -> d.at(i)), (int) model.print.charAt(i));
    }

    /** One call of each kind, but a few for the print: the rest of it is read at the end of the run. */
    private void compareState() {
        check("wrong()", ask(RetraceDesk::wrong), model.wrong);
        check("doubtful()", ask(RetraceDesk::doubtful), model.doubtful);
        check("length()", ask(RetraceDesk::length), model.print.length());
        check("at()", ask(d -> d.at(model.print.length())), Probe.OUT_OF_BOUNDS);
        for (int i = 0; i < 8 && !model.print.isEmpty(); i++) {
            compareCharacter(random.nextInt(model.print.length()));
        }
        check("crashes()", ask(RetraceDesk::crashes), model.crashes.size());
        List<Long> keys = new ArrayList<>(model.crashes.keySet());
        if (!keys.isEmpty()) {
            int crash = random.nextInt(keys.size());
            check("key()", ask(d -> d.key(crash)), keys.get(crash));
            for (int i = 0; i < 3; i++) {
                int which = i;
                check("reports()", ask(d -> d.reports(crash, which)),
                        model.crashes.get(keys.get(crash))[which]);
            }
        }
        int lines = model.classes == null ? 0 : model.classes.size();
        for (int i = 0; i < lines; i++) {
            int line = i;
            check("groups()", ask(d -> d.groups(line)), model.groupsOf(line));
        }
        check("groups()", ask(d -> d.groups(lines)), Probe.NO_SUCH_ELEMENT);
    }

    private String spoiled(String text) {
        int place = random.nextInt(text.length() + 1);
        switch (random.nextInt(4)) {
            case 0:
                return text.substring(0, place)
                        + CODES.charAt(random.nextInt(CODES.length())) + text.substring(place);
            case 1:
                return text.substring(0, place) + text.substring(Math.min(place + 1, text.length()));
            case 2:
                int end = text.indexOf('\n', place);
                return end < 0 ? text + "\n" + pick(WRONG_LINES)
                        : text.substring(0, end + 1) + pick(WRONG_LINES) + text.substring(end);
            default:
                return text.substring(0, place) + text.substring(random.nextInt(text.length() + 1));
        }
    }

    private String mapping() {
        StringBuilder text = new StringBuilder();
        int classes = random.nextInt(5);
        int realShift = random.nextInt(REALS.length);
        int briefShift = random.nextInt(BRIEFS.length);
        for (int i = 0; i < classes; i++) {
            text.append(REALS[(realShift + i) % REALS.length]).append(" -> ")
                    .append(BRIEFS[(briefShift + i) % BRIEFS.length]).append(":\n");
            int groups = random.nextInt(5);
            for (int k = 0; k < groups; k++) {
                addGroup(text);
            }
            if (random.nextInt(8) == 0) {
                text.append("# note\n\n");
            }
        }
        return text.length() > 600 ? text.substring(0, text.lastIndexOf("\n", 590)) : text.toString();
    }

    private void addGroup(StringBuilder text) {
        String brief = pick(METHODS);
        if (random.nextInt(3) == 0) {
            text.append("    ").append(realCall()).append(" -> ").append(brief).append('\n');
            return;
        }
        int a = random.nextInt(12);
        int span = random.nextInt(4);
        int lines = 1 + random.nextInt(3);
        for (int i = 0; i < lines; i++) {
            text.append("    ").append(a).append(':').append(a + span).append(':').append(realCall());
            int c = random.nextInt(12);
            int kind = random.nextInt(4);
            text.append(kind > 0 ? ":" + c : "").append(kind > 1 ? ":" + (c + span) : "");
            text.append(" -> ").append(brief).append('\n');
            if (random.nextInt(20) == 0) {
                text.append("#\n");
            }
        }
    }

    private String realCall() {
        return random.nextInt(3) == 0 ? pick(REALS) + "." + pick(METHODS) : pick(METHODS);
    }

    private String trace(String[] classes) {
        StringBuilder text = new StringBuilder();
        int sections = 1 + (random.nextInt(3) == 0 ? random.nextInt(4) : 0);
        for (int i = 0; i < sections; i++) {
            text.append(i > 0 ? "Caused by: " : "")
                    .append(random.nextBoolean() ? pick(classes) : pick(REALS));
            text.append(random.nextBoolean() ? "" : ": " + message()).append('\n');
            addFrames(text, classes);
            text.append(random.nextInt(4) > 0 ? "" : "\t... " + random.nextInt(20) + " more\n");
        }
        int end = random.nextInt(5) == 0 && text.charAt(text.length() - 1) == '\n'
                ? text.length() - 1 : text.length();
        return end > 600 ? text.substring(0, text.lastIndexOf("\n", 598) + 1)
                : text.substring(0, end);
    }

    private void addFrames(StringBuilder text, String[] classes) {
        int frames = random.nextInt(random.nextInt(4) == 0 ? 20 : 5);
        if (classes == REALS && !model.groups.isEmpty() && random.nextInt(3) > 0) {
            addFittingFrames(text);
        }
        for (int i = 0; i < frames; i++) {
            String call = pick(classes) + "." + pick(METHODS);
            int times = random.nextInt(6) == 0 ? 2 : 1;
            for (int k = 0; k < times; k++) {
                text.append("\tat ").append(call).append('(').append(place()).append(")\n");
            }
        }
    }

    /** Frames that a group of the mapping fits, or nearly fits. */
    private void addFittingFrames(StringBuilder text) {
        PlainModel.Group group = model.groups.get(random.nextInt(model.groups.size()));
        int offset = random.nextInt(Math.max(1, group.b() - group.a() + 1));
        for (PlainModel.MethodLine line : group.lines()) {
            int own = random.nextInt(12) == 0 ? random.nextInt(5) : line.c() == line.d() ? 0 : offset;
            text.append("\tat ").append(line.real().owner()).append('.')
                    .append(line.real().method()).append("(F");
            text.append(group.hasRange() ? ":" + (line.c() + own) : "").append(")\n");
        }
    }

    private String place() {
        switch (random.nextInt(8)) {
            case 0:
                return "Unknown Source";
            case 1:
                return "Native Method";
            case 2:
                return "SourceFile";
            case 3:
                return "F.java:" + random.nextInt(10000);
            default:
                return "S.t:" + random.nextInt(16);
        }
    }

    private String message() {
        StringBuilder text = new StringBuilder();
        int size = random.nextInt(6);
        for (int i = 0; i < size; i++) {
            text.append(CODES.charAt(random.nextInt(CODES.length())) == '\n' ? ' '
                    : CODES.charAt(random.nextInt(7)));
        }
        return text.toString();
    }
}
