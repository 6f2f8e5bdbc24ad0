import java.util.Map;

/** Promise 6, and what the terms say of shortening. */
public final class ShortenTest {
    private static final String MAPPING = "a.Main -> x.a:\n    1:3:run:10:12 -> a\n"
            + "    4:4:a.Util.help:7 -> a\n    4:4:run:13 -> a\n    stop -> b\n    start -> b\n"
            + "a.Util -> x.b:\n    5:9:help:5:9 -> a\n    a.Main.main -> c\n";

    public static void main(String[] args) {
        headers();
        classAndMethodOfTheLine();
        oneRealLine();
        edgesOfRealLines();
        frameWithoutLine();
        asManyFramesAsLines();
        sameOffset();
        offsetOfOneRealLines();
        framesOfOneHeader();
        endOfFrames();
        mostLines();
        firstOfSeveral();
        fromTheFirstOn();
        whatIsWritten();
        withoutRange();
        firstWithoutRange();
        onlyTheClass();
        frameStays();
        renamedOnce();
        answers();
        Probe.finish("ShortenTest");
    }

    /** Frames, one a word behind the mapping, and what becomes of them. */
    private static void frames(String mapping, String given, String due) {
        Probe probe = Probe.loaded(mapping);
        probe.shortens(traceOf(given), Integer.toString(due.split(" ").length), traceOf(due));
    }

    /** Underscores of places stand for spaces. */
    private static String traceOf(String frames) {
        StringBuilder text = new StringBuilder("h\n");
        for (String frame : frames.split(" ")) {
            text.append("\tat ").append(frame.replace("Unknown_", "Unknown ")
                    .replace("Native_", "Native ")).append('\n');
        }
        return text.toString();
    }

    private static void headers() {
        Probe.sentence("Shortening: a header's class that is a real one of a class line becomes its"
                + " short one");
        Probe probe = Probe.loaded(MAPPING);
        probe.shortens("a.Main: a.Main\n\t... 3 more\nCaused by: a.Util\nCaused by: x.a: \n", "0",
                "x.a: a.Main\n\t... 3 more\nCaused by: x.b\nCaused by: x.a: \n");
        for (String other : new String[] {"a", "Main", "a.Main2", "aa.Main", "a.Main.a", "a.main",
            "a.Main$", "x.b"}) {
            probe.shortens(other, "0", other + "\n");
        }
    }

    private static void classAndMethodOfTheLine() {
        Probe.sentence("Shortening: fits, if they have the class and method of the line");
        String mapping = "A -> x:\n    1:1:m:5 -> n\n    2:2:B.o:5 -> n\n";
        frames(mapping, "A.m(A:5)", "x.n(SourceFile:1)");
        frames(mapping, "B.o(A:5)", "x.n(SourceFile:2)");
        frames(mapping, "A.o(A:5)", "x.o(SourceFile:5)");
        frames(mapping, "B.m(A:5)", "B.m(A:5)");
        frames(mapping, "A.mm(A:5)", "x.mm(SourceFile:5)");
        frames(mapping, "A.n(A:5)", "x.n(SourceFile:5)");
        frames(mapping, "A.A.m(A:5)", "A.A.m(A:5)");
        frames(mapping, "x.n(A:1)", "x.n(A:1)");
    }

    private static void oneRealLine() {
        Probe.sentence("Shortening: a line K which is c if d is c");
        for (String real : new String[] {":50", ":50:50"}) {
            String mapping = "A -> x:\n    2:9:m" + real + " -> n";
            frames(mapping, "A.m(A:49)", "x.m(SourceFile:49)");
            frames(mapping, "A.m(A:50)", "x.n(SourceFile:2)");
            frames(mapping, "A.m(A:51)", "x.m(SourceFile:51)");
            frames(mapping, "A.m(A:2)", "x.m(SourceFile:2)");
        }
        frames("A -> x:\n    4:4:m -> n", "A.m(A:3) A.m(A:4) A.m(A:5)",
                "x.m(SourceFile:3) x.n(SourceFile:4) x.m(SourceFile:5)");
        frames("A -> x:\n    0:9999:m:0 -> n", "A.m(A:0) A.m(A:1)",
                "x.n(SourceFile:0) x.m(SourceFile:1)");
        frames("A -> x:\n    9999:9999:m:9999 -> n", "A.m(A:9998) A.m(A:9999)",
                "x.m(SourceFile:9998) x.n(SourceFile:9999)");
    }

    private static void edgesOfRealLines() {
        Probe.sentence("Shortening: or else of c .. d");
        String mapping = "A -> x:\n    2:5:m:50:53 -> n";
        frames(mapping, "A.m(A:49)", "x.m(SourceFile:49)");
        frames(mapping, "A.m(A:50)", "x.n(SourceFile:2)");
        frames(mapping, "A.m(A:51)", "x.n(SourceFile:3)");
        frames(mapping, "A.m(A:53)", "x.n(SourceFile:5)");
        frames(mapping, "A.m(A:54)", "x.m(SourceFile:54)");
        mapping = "A -> x:\n    50:51:m:0:1 -> n";
        frames(mapping, "A.m(A:0) A.m(A:1) A.m(A:2)",
                "x.n(SourceFile:50) x.n(SourceFile:51) x.m(SourceFile:2)");
        mapping = "A -> x:\n    0:9999:m:0:9999 -> n";
        frames(mapping, "A.m(A:0) A.m(A:9999)", "x.n(SourceFile:0) x.n(SourceFile:9999)");
        mapping = "A -> x:\n    3:5:m -> n";
        frames(mapping, "A.m(A:2) A.m(A:3) A.m(A:5) A.m(A:6)",
                "x.m(SourceFile:2) x.n(SourceFile:3) x.n(SourceFile:5) x.m(SourceFile:6)");
    }

    private static void frameWithoutLine() {
        Probe.sentence("Shortening: a group with a range does not fit a frame without a line");
        for (String range : new String[] {"0:0:m", "0:9999:m", "1:1:m:0", "0:1:m:0:1"}) {
            frames("A -> x:\n    " + range + " -> n",
                    "A.m(A) A.m(A.b) A.m(Unknown_Source) A.m(Native_Method)",
                    "x.m(SourceFile) x.m(SourceFile) x.m(Unknown_Source) x.m(Native_Method)");
        }
        frames("A -> x:\n    0:0:m:0 -> n\n    0:0:m:0 -> n", "A.m(A:0) A.m(A)",
                "x.m(SourceFile:0) x.m(SourceFile)");
        frames("A -> x:\n    m -> n", "A.m(A) A.m(A:1)", "x.n(SourceFile) x.n(SourceFile:1)");
    }

    private static void asManyFramesAsLines() {
        Probe.sentence("Shortening: that and the next ones, as many as the group has lines, each in"
                + " turn");
        String mapping = "A -> x:\n    4:4:m:5 -> n\n    4:4:o:6 -> n\n    4:4:p:7 -> n\n";
        frames(mapping, "A.m(A:5) A.o(A:6) A.p(A:7)", "x.n(SourceFile:4)");
        frames(mapping, "A.m(A:5) A.o(A:6) A.p(A:7) A.p(A:7)", "x.n(SourceFile:4) x.p(SourceFile:7)");
        frames(mapping, "A.p(A:7) A.m(A:5) A.o(A:6) A.p(A:7)", "x.p(SourceFile:7) x.n(SourceFile:4)");
        frames(mapping, "A.m(A:5) A.p(A:7) A.o(A:6)",
                "x.m(SourceFile:5) x.p(SourceFile:7) x.o(SourceFile:6)");
        frames(mapping, "A.m(A:5) A.o(A:6) A.p(A:8)",
                "x.m(SourceFile:5) x.o(SourceFile:6) x.p(SourceFile:8)");
        frames(mapping, "A.m(A:5) A.o(A:7) A.p(A:7)",
                "x.m(SourceFile:5) x.o(SourceFile:7) x.p(SourceFile:7)");
        frames(mapping, "A.m(A:5) A.o(A:6) B.p(A:7)", "x.m(SourceFile:5) x.o(SourceFile:6) B.p(A:7)");
        frames(mapping, "A.m(A:5) A.o(A:6) A.p(A:7) A.m(A:5) A.o(A:6) A.p(A:7)",
                "x.n(SourceFile:4) x.n(SourceFile:4)");
        String twenty = "    1:1:m:5 -> n\n".repeat(20);
        frames("A -> x:\n" + twenty, "A.m(A:5)" + " A.m(A:5)".repeat(19), "x.n(SourceFile:1)");
        frames("A -> x:\n" + twenty + "    1:1:m:5 -> n\n", "A.m(A:5)" + " A.m(A:5)".repeat(19),
                "x.m(SourceFile:5)" + " x.m(SourceFile:5)".repeat(19));
    }

    private static void sameOffset() {
        Probe.sentence("Shortening: with K - c being the same for all those lines of the group");
        String mapping = "A -> x:\n    10:14:m:20:24 -> n\n    10:14:o:7 -> n\n"
                + "    10:14:B.p:30:34 -> n\n";
        for (int i = 0; i <= 4; i++) {
            frames(mapping, "A.m(A:" + (20 + i) + ") A.o(A:7) B.p(B:" + (30 + i) + ")",
                    "x.n(SourceFile:" + (10 + i) + ")");
        }
        int[][] others = {{20, 7, 31}, {21, 7, 30}, {23, 7, 34}, {24, 7, 30}, {25, 7, 35}, {19, 7, 29},
            {20, 8, 30}, {20, 6, 30}, {21, 8, 31}};
        for (int[] lines : others) {
            frames(mapping, "A.m(A:" + lines[0] + ") A.o(A:" + lines[1] + ") B.p(B:" + lines[2] + ")",
                    "x.m(SourceFile:" + lines[0] + ") x.o(SourceFile:" + lines[1] + ") B.p(B:"
                    + lines[2] + ")");
        }
        frames(mapping, "A.m(A:20) A.o(A) B.p(B:30)", "x.m(SourceFile:20) x.o(SourceFile) B.p(B:30)");
        mapping = "A -> x:\n    1:3:m:5 -> n\n    1:3:o:6:8 -> n\n";
        frames(mapping, "A.m(A:5) A.o(A:8)", "x.n(SourceFile:3)");
        frames(mapping, "A.m(A:5) A.o(A:6)", "x.n(SourceFile:1)");
        frames(mapping, "A.m(A:5) A.o(A:9)", "x.m(SourceFile:5) x.o(SourceFile:9)");
    }

    private static void offsetOfOneRealLines() {
        Probe.sentence("Shortening: K - c, or 0 if there is no such line, is the offset");
        frames("A -> x:\n    3:9:m:20 -> n\n    3:9:o:40 -> n", "A.m(A:20) A.o(A:40)",
                "x.n(SourceFile:3)");
        frames("A -> x:\n    3:9:m:20:26 -> n\n    3:9:o:40 -> n", "A.m(A:26) A.o(A:40)",
                "x.n(SourceFile:9)");
        frames("A -> x:\n    9990:9999:m:0:9 -> n", "A.m(A:9)", "x.n(SourceFile:9999)");
    }

    private static void framesOfOneHeader() {
        Probe.sentence("Shortening: they are frames of one header");
        Probe probe = Probe.loaded("A -> x:\n    4:4:m:5 -> n\n    4:4:o:6 -> n\n");
        probe.shortens("h\n\tat A.m(A:5)\nCaused by: h\n\tat A.o(A:6)\n", "2",
                "h\n\tat x.m(SourceFile:5)\nCaused by: h\n\tat x.o(SourceFile:6)\n");
        probe.shortens("h\n\tat A.m(A:5)\n\t... 1 more\nCaused by: h\n\tat A.o(A:6)\n\tat A.m(A:5)\n"
                + "\tat A.o(A:6)\n", "3",
                "h\n\tat x.m(SourceFile:5)\n\t... 1 more\nCaused by: h\n\tat x.o(SourceFile:6)\n"
                + "\tat x.n(SourceFile:4)\n");
        probe.shortens("h\n\tat A.m(A:5)\n\tat A.o(A:6)\nCaused by: h\n\tat A.m(A:5)\n\tat A.o(A:6)\n"
                + "Caused by: h\n\tat A.m(A:5)\nCaused by: h\n\tat A.o(A:6)", "4",
                "h\n\tat x.n(SourceFile:4)\nCaused by: h\n\tat x.n(SourceFile:4)\nCaused by: h\n"
                + "\tat x.m(SourceFile:5)\nCaused by: h\n\tat x.o(SourceFile:6)\n");
    }

    private static void endOfFrames() {
        Probe.sentence("Shortening: a group of several lines at the end of the frames");
        Probe probe = Probe.loaded("A -> x:\n    1:1:m:5 -> a\n    1:1:m:6 -> a\n    1:1:m:7 -> a");
        probe.shortens("h\n\tat A.m(A:5)\n\tat A.m(A:6)\n\tat A.m(A:7)", "1",
                "h\n\tat x.a(SourceFile:1)\n");
        // frames of an earlier and longer trace are no frames of this one
        probe.shortens("h\n\tat A.m(A:5)\n\tat A.m(A:6)", "2",
                "h\n\tat x.m(SourceFile:5)\n\tat x.m(SourceFile:6)\n");
        probe.shortens("h\n\tat A.m(A:5)", "1", "h\n\tat x.m(SourceFile:5)\n");
        StringBuilder twenty = new StringBuilder("h\n");
        for (int i = 0; i < 19; i++) {
            twenty.append("\tat b.c(D)\n");
        }
        probe.shortens(twenty + "\tat A.m(A:5)", "20", twenty + "\tat x.m(SourceFile:5)\n");
    }

    private static void mostLines() {
        Probe.sentence("Shortening: of the groups that fit the one with the most lines is taken");
        String one = "    1:1:m:5 -> a\n";
        String two = "    2:2:m:5 -> b\n    2:2:m:6 -> b\n";
        String three = "    3:3:m:5 -> c\n    3:3:m:6 -> c\n    3:3:m:7 -> c\n";
        for (String mapping : new String[] {one + two + three, three + two + one, two + three + one,
            two + one + three}) {
            frames("A -> x:\n" + mapping, "A.m(A:5) A.m(A:6) A.m(A:7)", "x.c(SourceFile:3)");
            frames("A -> x:\n" + mapping, "A.m(A:5) A.m(A:6) A.m(A:8)",
                    "x.b(SourceFile:2) x.m(SourceFile:8)");
            frames("A -> x:\n" + mapping, "A.m(A:5) A.m(A:7)", "x.a(SourceFile:1) x.m(SourceFile:7)");
            frames("A -> x:\n" + mapping, "A.m(A:5)", "x.a(SourceFile:1)");
            frames("A -> x:\n" + mapping, "A.m(A:5) A.m(A:6)", "x.b(SourceFile:2)");
        }
    }

    private static void firstOfSeveral() {
        Probe.sentence("Shortening: of several the first");
        String two = "    2:2:m:5 -> b\n    2:2:m:6 -> b\n";
        String otherTwo = "    3:3:m:5 -> c\n    3:3:m:6 -> c\n";
        frames("A -> x:\n" + two + otherTwo, "A.m(A:5) A.m(A:6)", "x.b(SourceFile:2)");
        frames("A -> x:\n" + otherTwo + two, "A.m(A:5) A.m(A:6)", "x.c(SourceFile:3)");
        frames("A -> x:\n    1:1:m:5 -> a\n    2:2:m:5 -> b", "A.m(A:5)", "x.a(SourceFile:1)");
        frames("B -> y:\n    1:1:A.m:5 -> a\nA -> x:\n    1:1:m:5 -> a", "A.m(A:5)",
                "y.a(SourceFile:1)");
        frames("A -> x:\n    1:4:m:5:8 -> a\n    2:2:m:6 -> b", "A.m(A:6)", "x.a(SourceFile:2)");
        frames("A -> x:\n    1:4:m:5:8 -> a\n    2:2:m:9 -> b", "A.m(A:9)", "x.b(SourceFile:2)");
    }

    private static void fromTheFirstOn() {
        Probe.sentence("Shortening: frames, from the first on");
        String mapping = "A -> x:\n    1:1:m:5 -> a\n    1:1:m:6 -> a\n    2:2:m:6 -> b\n"
                + "    2:2:m:7 -> b\n    2:2:m:8 -> b\n";
        frames(mapping, "A.m(A:5) A.m(A:6) A.m(A:7) A.m(A:8)",
                "x.a(SourceFile:1) x.m(SourceFile:7) x.m(SourceFile:8)");
        frames(mapping, "A.m(A:6) A.m(A:7) A.m(A:8) A.m(A:5) A.m(A:6)",
                "x.b(SourceFile:2) x.a(SourceFile:1)");
    }

    private static void whatIsWritten() {
        Probe.sentence("Shortening: the short class of its class line, its short method, and the place"
                + " SourceFile, a colon, and a + offset");
        frames(MAPPING, "a.Main.run(Other.java:10) a.Main.run(M:12) a.Util.help(Util.java:7)"
                + " a.Main.run(Main.java:13) a.Util.help(U:7)",
                "x.a.a(SourceFile:1) x.a.a(SourceFile:3) x.a.a(SourceFile:4) x.b.a(SourceFile:7)");
        frames("A -> x:\nB -> y:\n    1:1:C.m:5 -> a\nC -> z:", "C.m(C:5) C.m(C:6)",
                "y.a(SourceFile:1) z.m(SourceFile:6)");
    }

    private static void withoutRange() {
        Probe.sentence("Shortening: if none fits, a group without a range: the place stays, only a file"
                + " becomes SourceFile");
        String mapping = "A -> x:\n    m -> n\nB -> y:\n    A.o -> p\n";
        frames(mapping, "A.m(A) A.m(A.b) A.m(A:0) A.m(A.b:9999) A.m(Unknown_Source) A.m(Native_Method)",
                "x.n(SourceFile) x.n(SourceFile) x.n(SourceFile:0) x.n(SourceFile:9999)"
                + " x.n(Unknown_Source) x.n(Native_Method)");
        frames(mapping, "A.o(A:3) B.m(B) B.o(B) A.n(A)",
                "y.p(SourceFile:3) y.m(SourceFile) y.o(SourceFile) x.n(SourceFile)");
        frames("A -> x:\n    m -> d\n    1:1:m:5 -> a\n", "A.m(A:5) A.m(A:7) A.m(A)",
                "x.a(SourceFile:1) x.d(SourceFile:7) x.d(SourceFile)");
        frames("A -> x:\n    1:1:m:5 -> a\n    1:1:o:6 -> a\n    m -> d\n", "A.m(A:5) A.m(A:6)",
                "x.d(SourceFile:5) x.d(SourceFile:6)");
        frames("A -> x:\n    B.m -> n\n", "B.m(S) C.m(S)", "x.n(SourceFile) C.m(S)");
    }

    private static void firstWithoutRange() {
        Probe.sentence("Shortening: the first group without a range");
        frames("A -> x:\n    m -> a\n    m -> b", "A.m(A)", "x.a(SourceFile)");
        frames("A -> x:\n    1:1:m:5 -> c\n    m -> b\n    m -> a", "A.m(A)", "x.b(SourceFile)");
        frames("B -> y:\n    A.m -> c\nA -> x:\n    m -> b", "A.m(A)", "y.c(SourceFile)");
        frames("A -> x:\n    o -> a\n    mm -> b\n    m -> c", "A.m(A)", "x.c(SourceFile)");
    }

    private static void onlyTheClass() {
        Probe.sentence("Shortening: otherwise, if the class is a real one: the short class, the method"
                + " as it is, and the place likewise");
        frames(MAPPING, "a.Util.no(U) a.Util.no(U.java:7) a.Util.no(Unknown_Source)"
                + " a.Util.no(Native_Method) a.Util.a(U)",
                "x.b.no(SourceFile) x.b.no(SourceFile:7) x.b.no(Unknown_Source)"
                + " x.b.no(Native_Method) x.b.a(SourceFile)");
    }

    private static void frameStays() {
        Probe.sentence("Shortening: otherwise the frame stays");
        frames(MAPPING, "b.Util.no(U) b.Util.no(U.java:7) x.a.a(Unknown_Source) x.b.c(Native_Method)",
                "b.Util.no(U) b.Util.no(U.java:7) x.a.a(Unknown_Source) x.b.c(Native_Method)");
    }

    private static void renamedOnce() {
        Probe.sentence("Shortening: real ones become short ones, once; a class that only calls have is"
                + " not a real one of a class line");
        Probe probe = Probe.loaded("B -> A:\n    m -> n\n    n -> m\nC -> B:\n    D.o -> n\n"
                + "A -> C:\n    1:1:D.p:5 -> q\n");
        probe.shortens("A\n\tat A.n(S)\n\tat B.m(S)\n\tat B.n(S)\n\tat C.n(S)\n\tat D.o(S)\n"
                + "\tat D.p(S:5)\n\tat D.p(S:6)\n\tat D.n(S)\nCaused by: B\nCaused by: C\n"
                + "Caused by: D", "8",
                "C\n\tat C.n(SourceFile)\n\tat A.n(SourceFile)\n\tat A.m(SourceFile)\n"
                + "\tat B.n(SourceFile)\n\tat B.n(SourceFile)\n\tat C.q(SourceFile:1)\n"
                + "\tat D.p(S:6)\n\tat D.n(S)\nCaused by: A\nCaused by: B\nCaused by: D\n");
    }

    private static void answers() {
        Probe.sentence("Promise 6: the draft is shortened likewise (doubtful stays)");
        Probe probe = Probe.used();
        Map<String, String> before = probe.state();
        Probe.same("doubtful", before.get("doubtful"), "1");
        Probe.same("shorten() of a header", probe.shorten("a.Old"), "0");
        probe.shows("shorten() of a header", before, "print", "o\n");
        Probe.same("shorten() of frames", probe.shorten("y\n\tat a.Old.m(S)\n\tat p.q(S)"), "2");
        probe.shows("shorten() of frames", before, "print",
                "y\n\tat o.n(SourceFile)\n\tat p.q(S)\n");
        probe = new Probe();
        before = probe.state();
        Probe.same("shorten() without a mapping", probe.shorten("a"), Probe.ILLEGAL_STATE);
        probe.shows("shorten() without a mapping", before);
    }
}
