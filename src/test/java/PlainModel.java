import java.util.ArrayList;
import java.util.LinkedHashMap;
import java.util.List;
import java.util.Map;
import java.util.regex.Matcher;
import java.util.regex.Pattern;

/** The document read a second time, with texts, lists and patterns, for ModelTest to compare. */
final class PlainModel {
    private static final String PART = "[a-zA-Z_$][a-zA-Z_$0-9]{0,39}";
    private static final String NAME = PART + "(?:\\." + PART + ")*";
    private static final String NUMBER = "0|[1-9][0-9]{0,3}";
    private static final Pattern CLASS_LINE = Pattern.compile("(" + NAME + ") -> (" + NAME + "):");
    private static final Pattern METHOD_LINE = Pattern.compile("    (?:(" + NUMBER + "):(" + NUMBER
            + "):)?(" + NAME + ")(?::(" + NUMBER + ")(?::(" + NUMBER + "))?)? -> (" + PART + ")");
    private static final Pattern HEADER = Pattern.compile("(" + NAME + ")(: (.*))?");
    private static final Pattern FRAME = Pattern.compile("\tat (" + NAME + ")\\((Unknown Source|"
            + "Native Method|(" + PART + "(?:\\." + PART + ")?)(?::(" + NUMBER + "))?)\\)");
    private static final Pattern MORE = Pattern.compile("\t\\.\\.\\. (?:" + NUMBER + ") more");

    record Call(String owner, String method) { }

    record MethodLine(Call real, int c, int d) { }

    record Group(String shortClass, String shortMethod, int a, int b, List<MethodLine> lines) {
        boolean hasRange() {
            return a >= 0;
        }

        Call last() {
            return lines.get(lines.size() - 1).real();
        }
    }

    record Frame(Call call, String file, String words, int line) { }

    record Section(String type, String message, List<Frame> frames, String[] more) { }

    /** Carries the number of the wrong line. */
    static final class WrongLine extends RuntimeException {
        private static final long serialVersionUID = 1L;
        final int line;

        WrongLine(int line) {
            this.line = line;
        }
    }

    String draft = "";
    String print = "";
    int wrong = 0;
    int doubtful = 0;
    List<String[]> classes = null;
    List<Group> groups = new ArrayList<>();
    private int doubtfulNow;
    private int framesNow;
    final Map<Long, int[]> crashes = new LinkedHashMap<>();
    private int reportCount = 0;

    boolean put(int n, long codes) {
        if (n < 1 || n > 8) {
            return false;
        }
        String more = "";
        for (int i = 0; i < n; i++) {
            more = (char) (codes & 255) + more;
            codes >>= 8;
        }
        if (!more.matches("[\n\t -~]*") || draft.length() + n > 600) {
            return false;
        }
        draft += more;
        return true;
    }

    int load() {
        String text = takeDraft();
        List<String[]> newClasses = new ArrayList<>();
        List<Group> newGroups = new ArrayList<>();
        int[] methods = {0};
        String[] lines = text.split("\n", -1);
        for (int i = 0; i < lines.length; i++) {
            String line = lines[i];
            if (!line.isEmpty() && !line.startsWith("#") && !readClass(line, newClasses)
                    && !readMethod(line, newClasses, newGroups, methods)) {
                wrong = i + 1;
                throw new WrongLine(i + 1);
            }
        }
        classes = newClasses;
        groups = newGroups;
        return groups.size();
    }

    private String takeDraft() {
        String text = draft;
        draft = "";
        return text;
    }

    private static boolean isName(String text) {
        return text.length() <= 40;
    }

    private static boolean readClass(String line, List<String[]> classes) {
        Matcher m = CLASS_LINE.matcher(line);
        if (!m.matches() || !isName(m.group(1)) || !isName(m.group(2)) || classes.size() == 8) {
            return false;
        }
        for (String[] other : classes) {
            if (other[0].equals(m.group(1)) || other[1].equals(m.group(2))) {
                return false;
            }
        }
        classes.add(new String[] {m.group(1), m.group(2)});
        return true;
    }

    private static boolean readMethod(String line, List<String[]> classes, List<Group> groups,
            int[] methods) {
        Matcher m = METHOD_LINE.matcher(line);
        if (!m.matches() || !isName(m.group(3)) || classes.isEmpty() || methods[0] == 32
                || (m.group(1) == null && m.group(4) != null)) {
            return false;
        }
        int a = numberOf(m.group(1), -1);
        int b = numberOf(m.group(2), -1);
        int c = numberOf(m.group(4), a);
        int d = numberOf(m.group(5), m.group(4) == null ? b : c);
        if (a > b || (d - c != 0 && d - c != b - a)) {
            return false;
        }
        methods[0]++;
        String[] owner = classes.get(classes.size() - 1);
        String text = m.group(3).contains(".") ? m.group(3) : owner[0] + "." + m.group(3);
        Group latest = groups.isEmpty() ? null : groups.get(groups.size() - 1);
        if (a < 0 || latest == null || !latest.shortClass().equals(owner[1]) || latest.a() != a
                || latest.b() != b || !latest.shortMethod().equals(m.group(6))) {
            groups.add(new Group(owner[1], m.group(6), a, b, new ArrayList<>()));
        }
        groups.get(groups.size() - 1).lines().add(new MethodLine(callOf(text), c, d));
        return true;
    }

    private static int numberOf(String text, int otherwise) {
        return text == null ? otherwise : Integer.parseInt(text);
    }

    private static Call callOf(String text) {
        int point = text.lastIndexOf('.');
        return new Call(text.substring(0, point), text.substring(point + 1));
    }

    private List<Section> readTrace(String text) {
        List<Section> sections = new ArrayList<>();
        String[] lines = (text.endsWith("\n") ? text.substring(0, text.length() - 1) : text)
                .split("\n", -1);
        int frames = 0;
        for (int i = 0; i < lines.length; i++) {
            String line = lines[i];
            Section latest = i == 0 ? null : sections.get(sections.size() - 1);
            boolean isCause = i > 0 && line.startsWith("Caused by: ");
            Matcher header = HEADER.matcher(isCause ? line.substring(11) : line);
            Matcher frame = FRAME.matcher(line);
            if ((i == 0 || isCause) && header.matches() && isName(header.group(1))
                    && sections.size() < 4) {
                sections.add(new Section(header.group(1), header.group(2) == null ? null
                        : header.group(3), new ArrayList<>(), new String[1]));
            } else if (i > 0 && latest.more()[0] == null && frame.matches()
                    && isName(frame.group(1)) && frame.group(1).contains(".") && frames < 20) {
                frames++;
                latest.frames().add(new Frame(callOf(frame.group(1)), frame.group(3),
                        frame.group(2), numberOf(frame.group(4), -1)));
            } else if (i > 0 && latest.more()[0] == null && MORE.matcher(line).matches()) {
                latest.more()[0] = line;
            } else {
                wrong = i + 1;
                throw new WrongLine(i + 1);
            }
        }
        return sections;
    }

    private String renamed(String type, int from, int to) {
        for (String[] line : classes) {
            if (line[from].equals(type)) {
                return line[to];
            }
        }
        return null;
    }

    private static String fileOf(String type) {
        String last = type.substring(type.lastIndexOf('.') + 1);
        int dollar = last.indexOf('$', 1);
        return (dollar < 0 ? last : last.substring(0, dollar)) + ".java";
    }

    private static Frame moved(Frame frame, Call call, String file) {
        return new Frame(call, frame.file() == null ? null : file, frame.words(), frame.line());
    }

    private List<Frame> retraced(Frame frame) {
        String real = renamed(frame.call().owner(), 1, 0);
        if (real == null) {
            return List.of(frame);
        }
        List<Group> mine = new ArrayList<>();
        for (Group group : groups) {
            if (group.shortClass().equals(frame.call().owner())
                    && group.shortMethod().equals(frame.call().method())) {
                mine.add(group);
            }
        }
        for (Group group : mine) {
            int line = frame.line();
            if (line >= 0 && group.hasRange() && group.a() <= line && line <= group.b()) {
                List<Frame> all = new ArrayList<>();
                for (MethodLine m : group.lines()) {
                    all.add(new Frame(m.real(), fileOf(m.real().owner()), "",
                            m.d() == m.c() ? m.c() : m.c() + line - group.a()));
                }
                return all;
            }
        }
        if (mine.isEmpty()) {
            return List.of(moved(frame, new Call(real, frame.call().method()), fileOf(real)));
        }
        Call call = mine.get(0).last();
        doubtfulNow += mine.stream().map(Group::last).distinct().count() > 1 ? 1 : 0;
        return List.of(moved(frame, call, fileOf(call.owner())));
    }

    private static int offsetOf(Group group, List<Frame> frames, int from) {
        if (!group.hasRange() || from + group.lines().size() > frames.size()) {
            return -1;
        }
        List<Integer> offsets = new ArrayList<>();
        for (int i = 0; i < group.lines().size(); i++) {
            MethodLine m = group.lines().get(i);
            Frame frame = frames.get(from + i);
            if (!m.real().equals(frame.call()) || frame.line() < m.c() || frame.line() > m.d()) {
                return -1;
            }
            if (m.c() != m.d()) {
                offsets.add(frame.line() - m.c());
            }
        }
        long different = offsets.stream().distinct().count();
        return different > 1 ? -1 : different == 0 ? 0 : offsets.get(0);
    }

    private List<Frame> shortened(List<Frame> frames) {
        List<Frame> all = new ArrayList<>();
        int i = 0;
        while (i < frames.size()) {
            Group best = null;
            for (Group group : groups) {
                if (offsetOf(group, frames, i) >= 0
                        && (best == null || group.lines().size() > best.lines().size())) {
                    best = group;
                }
            }
            if (best == null) {
                all.add(shortenedAlone(frames.get(i)));
                i++;
            } else {
                all.add(new Frame(new Call(best.shortClass(), best.shortMethod()), "SourceFile", "",
                        best.a() + offsetOf(best, frames, i)));
                i += best.lines().size();
            }
        }
        return all;
    }

    private Frame shortenedAlone(Frame frame) {
        for (Group group : groups) {
            if (!group.hasRange() && group.last().equals(frame.call())) {
                return moved(frame, new Call(group.shortClass(), group.shortMethod()), "SourceFile");
            }
        }
        String brief = renamed(frame.call().owner(), 0, 1);
        return brief == null ? frame
                : moved(frame, new Call(brief, frame.call().method()), "SourceFile");
    }

    private String written(List<Section> sections) {
        StringBuilder text = new StringBuilder();
        framesNow = 0;
        for (int i = 0; i < sections.size(); i++) {
            Section section = sections.get(i);
            text.append(i == 0 ? "" : "Caused by: ").append(section.type())
                    .append(section.message() == null ? "" : ": " + section.message()).append('\n');
            for (Frame frame : section.frames()) {
                framesNow++;
                text.append("\tat ").append(frame.call().owner()).append('.')
                        .append(frame.call().method()).append('(')
                        .append(frame.file() == null ? frame.words() : frame.file()
                                + (frame.line() < 0 ? "" : ":" + frame.line())).append(")\n");
            }
            text.append(section.more()[0] == null ? "" : section.more()[0] + "\n");
        }
        return text.toString();
    }

    private List<Section> rewritten(boolean isBack) {
        List<Section> sections = readTrace(takeDraft());
        if (classes == null) {
            throw new IllegalStateException();
        }
        List<Section> all = new ArrayList<>();
        doubtfulNow = 0;
        for (Section section : sections) {
            String type = renamed(section.type(), isBack ? 1 : 0, isBack ? 0 : 1);
            List<Frame> frames = new ArrayList<>();
            if (isBack) {
                for (Frame frame : section.frames()) {
                    frames.addAll(retraced(frame));
                }
            } else {
                frames = shortened(section.frames());
            }
            all.add(new Section(type == null ? section.type() : type, section.message(), frames,
                    section.more()));
        }
        if (written(all).length() > 1000) {
            throw new IllegalStateException();
        }
        return all;
    }

    int retrace() {
        print = written(rewritten(true));
        doubtful = doubtfulNow;
        return framesNow;
    }

    int shorten() {
        print = written(rewritten(false));
        return framesNow;
    }

    int report() {
        List<Section> sections = rewritten(true);
        long key = keyOf(sections);
        if (crashes.size() == 16 && !crashes.containsKey(key)) {
            throw new IllegalStateException();
        }
        print = written(sections);
        doubtful = doubtfulNow;
        reportCount++;
        int[] counts = crashes.computeIfAbsent(key, k -> new int[] {0, reportCount, 0});
        counts[0]++;
        counts[2] = reportCount;
        return new ArrayList<>(crashes.keySet()).indexOf(key);
    }

    private static long keyOf(List<Section> sections) {
        StringBuilder text = new StringBuilder();
        for (Section section : sections) {
            text.append(section.type().replaceAll("[0-9]+", "0")).append(':')
                    .append(section.message() == null ? ""
                            : section.message().replaceAll("[0-9]+", "0")).append('\n');
            List<Call> calls = new ArrayList<>();
            for (Frame frame : section.frames()) {
                if (calls.isEmpty() || !calls.get(calls.size() - 1).equals(frame.call())) {
                    calls.add(frame.call());
                }
            }
            for (Call call : calls.subList(0, Math.min(6, calls.size()))) {
                text.append(call.owner()).append('.').append(call.method()).append('\n');
            }
        }
        long h = -3750763034362895579L;
        for (int i = 0; i < text.length(); i++) {
            h = (h ^ text.charAt(i)) * 1099511628211L;
        }
        return h;
    }

    int groupsOf(int line) {
        int count = 0;
        for (Group group : groups) {
            count += group.shortClass().equals(classes.get(line)[1]) ? 1 : 0;
        }
        return count;
    }
}
