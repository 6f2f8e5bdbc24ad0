import java.util.Map;

/** Promises 5 and 11, and what the terms say of retracing. */
public final class RetraceTest {
    private static final String MAPPING = "a.Main -> x.a:\n    1:3:run:10:12 -> a\n"
            + "    4:4:a.Util$In.help:7 -> a\n    4:4:run:13 -> a\n    stop -> b\n    start -> b\n"
            + "a.Util -> x.b:\n    5:9:help -> a\n    5:9:b.Big.go:70 -> a\n    6:20:other:1 -> a\n"
            + "b.$Big$In -> c:\n    go -> a\n    go -> a\n    2:3:go -> a\n";

    public static void main(String[] args) {
        headers();
        messagesAndMoreLines();
        framesOfOtherClasses();
        shortMethods();
        edgesOfRange();
        firstGroupWithTheLine();
        oneFrameForEachLine();
        realLines();
        frameWithoutLine();
        lineInNoRange();
        noSuchGroup();
        placeStays();
        doubtfulByClassOrMethod();
        notDoubtful();
        doubtfulIsCounted();
        files();
        renamedOnce();
        answers();
        nothingIsLeftOfOlderTraces();
        Probe.finish("RetraceTest");
    }

    private static Probe loaded() {
        return Probe.loaded(MAPPING);
    }

    private static void frame(String mapping, String frame, String... due) {
        StringBuilder print = new StringBuilder("h\n");
        for (String line : due) {
            print.append("\tat ").append(line).append('\n');
        }
        Probe.loaded(mapping).retraces("h\n\tat " + frame, Integer.toString(due.length),
                print.toString());
    }

    private static void headers() {
        Probe.sentence("Retracing: a header's class that is the short one of a class line becomes its"
                + " real one");
        Probe probe = loaded();
        probe.retraces("x.a", "0", "a.Main\n");
        probe.retraces("x.a\n", "0", "a.Main\n");
        for (String other : new String[] {"x", "a", "x.aa", "xx.a", "x.a.a", "X.a", "x.a$", "a.Main",
            "b.$Big$In"}) {
            probe.retraces(other, "0", other + "\n");
        }
        probe.retraces("y\nCaused by: c: c\nCaused by: x.b\nCaused by: z", "0",
                "y\nCaused by: b.$Big$In: c\nCaused by: a.Util\nCaused by: z\n");
    }

    private static void messagesAndMoreLines() {
        Probe.sentence("Retracing: messages and more lines stay");
        Probe probe = loaded();
        probe.retraces("x.a: ", "0", "a.Main: \n");
        probe.retraces("x.a: x.a", "0", "a.Main: x.a\n");
        probe.retraces("x.a: x.b: c", "0", "a.Main: x.b: c\n");
        probe.retraces("x.a: \tat x.a.a(S:1)", "0", "a.Main: \tat x.a.a(S:1)\n");
        probe.retraces("y\n\t... 0 more\nCaused by: c: 1\n\t... 9999 more\nCaused by: z: \n", "0",
                "y\n\t... 0 more\nCaused by: b.$Big$In: 1\n\t... 9999 more\nCaused by: z: \n");
    }

    private static void framesOfOtherClasses() {
        Probe.sentence("Retracing: a frame whose class is not short stays as it is");
        Probe probe = loaded();
        for (String frame : new String[] {"q.b.a(S.t:4)", "q.b.a(S)", "q.b.a(Native Method)",
            "q.b.a(Unknown Source)", "a.Main.run(S:10)", "x.a(S:1)", "x.a.a.a(S:1)", "x.aa.a(S:1)",
            "X.a.a(S:1)"}) {
            probe.retraces("y\n\tat " + frame, "1", "y\n\tat " + frame + "\n");
        }
        Probe.same("doubtful()", probe.doubtful(), "0");
    }

    private static void shortMethods() {
        Probe.sentence("Retracing: the groups of the class line whose short method is that of the"
                + " frame");
        String mapping = "A -> x:\n    1:1:m -> n\n    2:2:o -> nn\nB -> y:\n    3:3:p -> n\n";
        frame(mapping, "x.n(S:1)", "A.m(A.java:1)");
        frame(mapping, "x.n(S:2)", "A.m(A.java:2)");
        frame(mapping, "x.nn(S:1)", "A.o(A.java:1)");
        frame(mapping, "x.n(S:3)", "A.m(A.java:3)");
        frame(mapping, "y.n(S:1)", "B.p(B.java:1)");
        frame(mapping, "x.N(S:1)", "A.N(A.java:1)");
        frame(mapping, "x.m(S:1)", "A.m(A.java:1)");
    }

    private static void edgesOfRange() {
        Probe.sentence("Retracing: one of them has a range with L in it: its first and its last line,"
                + " and those beside it");
        String mapping = "A -> x:\n    o -> n\n    5:9:m:50:54 -> n\n";
        frame(mapping, "x.n(S:4)", "A.o(A.java:4)");
        frame(mapping, "x.n(S:5)", "A.m(A.java:50)");
        frame(mapping, "x.n(S:6)", "A.m(A.java:51)");
        frame(mapping, "x.n(S:9)", "A.m(A.java:54)");
        frame(mapping, "x.n(S:10)", "A.o(A.java:10)");
        mapping = "A -> x:\n    o -> n\n    7:7:m:50 -> n\n";
        frame(mapping, "x.n(S:6)", "A.o(A.java:6)");
        frame(mapping, "x.n(S:7)", "A.m(A.java:50)");
        frame(mapping, "x.n(S:8)", "A.o(A.java:8)");
        mapping = "A -> x:\n    o -> n\n    0:0:m:50 -> n\n    9999:9999:p:0 -> n\n";
        frame(mapping, "x.n(S:0)", "A.m(A.java:50)");
        frame(mapping, "x.n(S:1)", "A.o(A.java:1)");
        frame(mapping, "x.n(S:9998)", "A.o(A.java:9998)");
        frame(mapping, "x.n(S:9999)", "A.p(A.java:0)");
        frame("A -> x:\n    0:9999:m:0:9999 -> n", "x.n(S:9999)", "A.m(A.java:9999)");
    }

    private static void firstGroupWithTheLine() {
        Probe.sentence("Retracing: the first such group");
        String mapping = "A -> x:\n    3:5:m:30 -> n\n    5:8:o:40 -> n\n    1:9:p:50 -> n\n";
        frame(mapping, "x.n(S:2)", "A.p(A.java:50)");
        frame(mapping, "x.n(S:4)", "A.m(A.java:30)");
        frame(mapping, "x.n(S:5)", "A.m(A.java:30)");
        frame(mapping, "x.n(S:6)", "A.o(A.java:40)");
        frame(mapping, "x.n(S:9)", "A.p(A.java:50)");
        frame("A -> x:\n    1:2:m:30 -> n\n    k -> l\n    1:2:o:40 -> n", "x.n(S:1)",
                "A.m(A.java:30)");
    }

    private static void oneFrameForEachLine() {
        Probe.sentence("Retracing: the frame becomes one frame for each of its method lines, in their"
                + " order: the real class and method, the class's file");
        frame(MAPPING, "x.a.a(S:4)", "a.Util$In.help(Util.java:7)", "a.Main.run(Main.java:13)");
        frame(MAPPING, "x.b.a(S.t:7)", "a.Util.help(Util.java:7)", "b.Big.go(Big.java:70)");
        String[] due = new String[32];
        java.util.Arrays.fill(due, "A.m(A.java:1)");
        frame("A -> x:\n" + "    1:1:m -> n\n".repeat(32), "x.n(S:1)", due);
        Probe probe = loaded();
        probe.retraces("y\n\tat x.a.a(S:4)\n\tat q.q(S)\n\tat x.a.a(S:4)\nCaused by: z\n"
                + "\tat x.a.a(S:4)\n\t... 1 more", "7",
                "y\n\tat a.Util$In.help(Util.java:7)\n\tat a.Main.run(Main.java:13)\n\tat q.q(S)\n"
                + "\tat a.Util$In.help(Util.java:7)\n\tat a.Main.run(Main.java:13)\nCaused by: z\n"
                + "\tat a.Util$In.help(Util.java:7)\n\tat a.Main.run(Main.java:13)\n\t... 1 more\n");
    }

    private static void realLines() {
        Probe.sentence("Retracing: c + L - a, or c if d is c");
        String mapping = "A -> x:\n    10:12:m:7:9 -> n\n    10:12:o:7 -> n\n    10:12:p -> n\n"
                + "    10:12:q:9997:9999 -> n\n    10:12:r:0:2 -> n\n    10:12:s:0:0 -> n\n";
        for (int i = 0; i < 3; i++) {
            frame(mapping, "x.n(S:" + (10 + i) + ")", "A.m(A.java:" + (7 + i) + ")", "A.o(A.java:7)",
                    "A.p(A.java:" + (10 + i) + ")", "A.q(A.java:" + (9997 + i) + ")",
                    "A.r(A.java:" + i + ")", "A.s(A.java:0)");
        }
    }

    private static void frameWithoutLine() {
        Probe.sentence("Retracing: a frame without a line is in no range");
        for (String range : new String[] {"0:0", "0:9999", "1:1"}) {
            String mapping = "A -> x:\n    " + range + ":m:5 -> n\n    " + range + ":o:6 -> n\n";
            frame(mapping, "x.n(S)", "A.o(A.java)");
            frame(mapping, "x.n(S.t)", "A.o(A.java)");
            frame(mapping, "x.n(Unknown Source)", "A.o(Unknown Source)");
            frame(mapping, "x.n(Native Method)", "A.o(Native Method)");
        }
    }

    private static void lineInNoRange() {
        Probe.sentence("Retracing: otherwise the real class and method of the last line of the first"
                + " group");
        frame(MAPPING, "x.a.a(S:0)", "a.Main.run(Main.java:0)");
        frame(MAPPING, "x.a.a(S:5)", "a.Main.run(Main.java:5)");
        frame(MAPPING, "x.b.a(S:4)", "b.Big.go(Big.java:4)");
        frame(MAPPING, "x.b.a(S.t:21)", "b.Big.go(Big.java:21)");
        frame(MAPPING, "x.a.b(S:9)", "a.Main.stop(Main.java:9)");
        frame("A -> x:\n    m -> n\n    1:1:o -> n\n    1:1:p -> n", "x.n(S)", "A.m(A.java)");
        frame("A -> x:\n    1:1:o -> n\n    1:1:B.p -> n\n    m -> n", "x.n(S)", "B.p(B.java)");
        frame("A -> x:\n    k -> l\n    m -> n", "x.n(S:7)", "A.m(A.java:7)");
    }

    private static void noSuchGroup() {
        Probe.sentence("Retracing: otherwise the real class, and the method as it is");
        frame(MAPPING, "x.b.zz(S.t:77)", "a.Util.zz(Util.java:77)");
        frame(MAPPING, "x.b.b(S)", "a.Util.b(Util.java)");
        frame(MAPPING, "x.b.help(Native Method)", "a.Util.help(Native Method)");
        frame("A -> x:\nB -> y:\n    m -> n", "x.n(S:1)", "A.n(A.java:1)");
        frame("A -> x:\nB -> y:\n    m -> n", "y.n(S:1)", "B.m(B.java:1)");
    }

    private static void placeStays() {
        Probe.sentence("Retracing: in both cases the place stays, but for a file, that becomes the"
                + " class's file");
        String[] places = {"S", "S.t", "S:0", "S.t:9999", "Unknown Source", "Native Method", "Unknown",
            "A.java:5"};
        String[] groupPlaces = {"C.java", "C.java", "C.java:0", "C.java:9999", "Unknown Source",
            "Native Method", "C.java", "C.java:5"};
        for (int i = 0; i < places.length; i++) {
            frame("A -> x:\n    c.C.m -> n", "x.n(" + places[i] + ")", "c.C.m(" + groupPlaces[i] + ")");
            frame("c.C -> x:", "x.n(" + places[i] + ")", "c.C.n(" + groupPlaces[i] + ")");
        }
    }

    private static void doubts(String methodLines, String frame, int due) {
        Probe probe = Probe.loaded("A -> x:\n" + methodLines);
        probe.retrace("y\n\tat " + frame);
        Probe.same("doubtful() of " + frame + " with\n" + methodLines, probe.doubtful(),
                Integer.toString(due));
        probe = Probe.loaded("A -> x:\n" + methodLines);
        probe.report("y\n\tat " + frame);
        Probe.same("doubtful() of a report of " + frame + " with\n" + methodLines, probe.doubtful(),
                Integer.toString(due));
    }

    private static void doubtfulByClassOrMethod() {
        Probe.sentence("Retracing: doubtful if the last lines of two of these groups have different"
                + " classes or methods");
        doubts("    m -> n\n    o -> n", "x.n(S)", 1);
        doubts("    m -> n\n    o -> n", "x.n(S:1)", 1);
        doubts("    m -> n\n    o -> n", "x.n(Native Method)", 1);
        doubts("    m -> n\n    B.m -> n", "x.n(S)", 1);
        doubts("    m -> n\n    A.A.m -> n", "x.n(S)", 1);
        doubts("    m -> n\n    mm -> n", "x.n(S)", 1);
        doubts("    m -> n\n    m -> n\n    o -> n", "x.n(S)", 1);
        doubts("    m -> n\n    o -> n\n    m -> n", "x.n(S)", 1);
        doubts("    1:1:m -> n\n    2:2:o -> n", "x.n(S:3)", 1);
        doubts("    1:1:m -> n\n    1:1:o -> n\n    2:2:m -> n", "x.n(S:3)", 1);
        doubts("    1:1:m -> n\n    1:2:m -> n\n    1:2:o -> n", "x.n(S)", 1);
    }

    private static void notDoubtful() {
        Probe.sentence("Retracing: not doubtful: groups that end alike, one group, none, or a range");
        doubts("    m -> n", "x.n(S)", 0);
        doubts("    m -> n\n    A.m -> n", "x.n(S)", 0);
        doubts("    1:1:o -> n\n    1:1:m -> n\n    m -> n", "x.n(S)", 0);
        doubts("    m -> n\n    1:1:o -> n\n    1:1:m -> n", "x.n(S:2)", 0);
        doubts("    1:1:m -> n\n    1:1:o -> n", "x.n(S)", 0);
        doubts("    m -> n\n    o -> p", "x.n(S)", 0);
        doubts("    m -> n\nB -> y:\n    o -> n", "x.n(S)", 0);
        doubts("    m -> n\n    o -> n", "x.p(S)", 0);
        doubts("    1:1:m -> n\n    2:2:o -> n", "x.n(S:1)", 0);
        doubts("    1:1:m -> n\n    2:2:o -> n", "x.n(S:2)", 0);
        doubts("    m -> n\n    o -> n", "A.m(S)", 0);
    }

    private static void doubtfulIsCounted() {
        Probe.sentence("Promise 11: how many frames were doubtful in the latest retrace() or report()"
                + " that did not throw; 0 before it");
        Probe probe = new Probe();
        Probe.same("doubtful() before", probe.doubtful(), "0");
        probe.load(MAPPING);
        Probe.same("doubtful() behind load()", probe.doubtful(), "0");
        probe.retrace("y\n\tat x.a.b(S:1)\n\tat x.a.a(S)\n\tat x.b.a(S)\n\tat c.a(S)\n"
                + "\tat x.a.a(S:1)\n\tat x.a.c(S)\n\tat q.b(S)\nCaused by: y\n\tat x.a.b(S)");
        Probe.same("doubtful() of two headers", probe.doubtful(), "3");
        probe.shorten("y");
        Probe.same("doubtful() behind shorten()", probe.doubtful(), "3");
        probe.load("");
        Probe.same("doubtful() behind load()", probe.doubtful(), "3");
        probe.load(MAPPING);
        Map<String, String> before = probe.state();
        for (String name : new String[] {"retrace", "report"}) {
            Probe.same("a wrong trace", probe.read(name, "y\n\tat x.a.b(S)\nz"),
                    Probe.ILLEGAL_ARGUMENT);
            probe.shows("a wrong trace", before, "wrong", "3");
        }
        probe.report("y\n\tat x.a.b(S:1)");
        Probe.same("doubtful() behind report()", probe.doubtful(), "1");
        probe.retrace("y");
        Probe.same("doubtful() behind retrace()", probe.doubtful(), "0");
        probe = Probe.loaded("A -> x:\n    m -> n\n    o -> n");
        probe.retrace("y\n" + "\tat x.n(S)\n".repeat(20));
        Probe.same("doubtful() of 20 frames", probe.doubtful(), "20");
        probe.report("y");
        Probe.same("doubtful() behind report()", probe.doubtful(), "0");
    }

    private static void files() {
        Probe.sentence("Retracing: the file of a real class is its last part, without a $ that is not"
                + " at its beginning and what is behind that, and '.java'");
        String[] reals = {"A", "a.B", "a.b.C", "A$B", "A$B$C", "A$", "A$$", "A$$B", "$", "$A", "$A$B",
            "$A$", "$$", "$$A", "a.$", "a.$A", "a.$A$B", "a.$$", "a$b.C", "$a.C$d", "a$.$b$c",
            "a.B$c", "Z" + "9".repeat(39)};
        String[] files = {"A", "B", "C", "A", "A", "A", "A", "A", "$", "$A", "$A",
            "$A", "$", "$", "$", "$A", "$A", "$", "C", "C", "$b",
            "B", "Z" + "9".repeat(39)};
        for (int i = 0; i < reals.length; i++) {
            String file = "(" + files[i] + ".java";
            frame(reals[i] + " -> x:\n    3:4:m -> n", "x.n(S:3)", reals[i] + ".m" + file + ":3)");
            frame(reals[i] + " -> x:\n    3:4:m -> n", "x.n(S:5)", reals[i] + ".m" + file + ":5)");
            frame(reals[i] + " -> x:", "x.n(S)", reals[i] + ".n" + file + ")");
            if (reals[i].length() < 39) {
                frame("Q -> x:\n    1:1:" + reals[i] + ".m -> n", "x.n(S:1)",
                        reals[i] + ".m" + file + ":1)");
                frame("Q -> x:\n    " + reals[i] + ".m -> n", "x.n(S)", reals[i] + ".m" + file + ")");
                frame("Q -> x:\n    " + reals[i] + ".$ -> n", "x.n(S)", reals[i] + ".$" + file + ")");
            }
        }
    }

    private static void renamedOnce() {
        Probe.sentence("Retracing: short ones become real ones, once: what is written is not looked at"
                + " again, and what is real stays");
        Probe probe = Probe.loaded("B -> A:\n    m -> n\n    n -> m\nC -> B:\n    D.o -> n\n"
                + "A -> C:\n");
        probe.retraces("A\n\tat A.n(S)\n\tat A.m(S)\n\tat B.n(S)\n\tat B.o(S)\n\tat C.n(S)\n"
                + "\tat D.o(S)\nCaused by: B\nCaused by: C\nCaused by: D", "6",
                "B\n\tat B.m(B.java)\n\tat B.n(B.java)\n\tat D.o(D.java)\n\tat C.o(C.java)\n"
                + "\tat A.n(A.java)\n\tat D.o(S)\nCaused by: C\nCaused by: A\nCaused by: D\n");
    }

    private static void answers() {
        Probe.sentence("Promise 5: the draft is empty then; answers how many frames the print has");
        Probe probe = Probe.used();
        Map<String, String> before = probe.state();
        Probe.same("retrace() of a header", probe.retrace("o"), "0");
        probe.shows("retrace() of a header", before, "print", "a.Old\n", "doubtful", "0");
        before = probe.state();
        Probe.same("retrace() of two doubtful frames",
                probe.retrace("o: 1\n\tat o.n(S)\nCaused by: p\n\tat o.n(S:2)\n\tat p.q(S)"), "3");
        probe.shows("retrace() of two doubtful frames", before, "doubtful", "2", "print",
                "a.Old: 1\n\tat a.Old.m(Old.java)\nCaused by: p\n\tat a.Old.m(Old.java:2)\n"
                + "\tat p.q(S)\n");
        probe = Probe.loaded("A -> x:\n" + "    1:1:m -> n\n".repeat(3));
        Probe.same("retrace() of 7 frames", probe.retrace("y\n" + "\tat x.n(S:1)\n".repeat(7)), "21");
    }

    private static void nothingIsLeftOfOlderTraces() {
        Probe.sentence("Promise 5: nothing is left of the traces before");
        Probe probe = Probe.loaded("");
        probe.retrace("a: b\n\tat b.c(D:1)\n\tat b.c(D:1)\n\t... 1 more\nCaused by: e: f\n\tat g.h(I)");
        probe.retraces("a", "0", "a\n");
        probe.retraces("a\nCaused by: e", "0", "a\nCaused by: e\n");
        probe.retraces("a\n\tat b.c(D)\nCaused by: e", "1", "a\n\tat b.c(D)\nCaused by: e\n");
        probe.retraces("a\n\tat b.c(Native Method)", "1", "a\n\tat b.c(Native Method)\n");
        probe.retrace("a\n\tat b.c(D:1)\n-");
        probe.retraces("a", "0", "a\n");
    }
}
