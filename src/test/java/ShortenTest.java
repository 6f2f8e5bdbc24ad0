/** Promise 6: shorten. */
public final class ShortenTest {
    private static final String MAPPING = "a.Main -> x.a:\n    1:3:run:10:12 -> a\n"
            + "    4:4:a.Util.help:7 -> a\n    4:4:run:13 -> a\n    stop -> b\n    start -> b\n"
            + "a.Util -> x.b:\n    5:9:help:5:9 -> a\n    a.Main.main -> c\n";

    public static void main(String[] args) {
        headers();
        singleLines();
        inlinedCalls();
        offsets();
        mostLinesFirst();
        withoutRange();
        frameBounds();
        throwing();
        Probe.finish("ShortenTest");
    }

    private static Probe loaded(String mapping) {
        Probe probe = new Probe();
        probe.load(mapping);
        return probe;
    }

    private static void headers() {
        Probe probe = loaded(MAPPING);
        probe.shortens("a.Main: a.Main\n\t... 3 more\nCaused by: a.Util\nCaused by: x.a: \n", "0",
                "x.a: a.Main\n\t... 3 more\nCaused by: x.b\nCaused by: x.a: \n");
    }

    private static void singleLines() {
        Probe probe = loaded(MAPPING);
        probe.shortens("y\n\tat a.Main.run(Other.java:10)\n\tat a.Main.run(M:12)", "2",
                "y\n\tat x.a.a(SourceFile:1)\n\tat x.a.a(SourceFile:3)\n");
        probe.shortens("y\n\tat a.Util.help(Util.java:5)", "1", "y\n\tat x.b.a(SourceFile:5)\n");
        probe.shortens("y\n\tat a.Main.run(Main.java:9)\n\tat a.Main.run(Main.java:13)", "2",
                "y\n\tat x.a.run(SourceFile:9)\n\tat x.a.run(SourceFile:13)\n");
        probe.shortens("y\n\tat a.Main.run(Main.java)\n\tat a.Main.run(Unknown Source)", "2",
                "y\n\tat x.a.run(SourceFile)\n\tat x.a.run(Unknown Source)\n");
        loaded("A -> x:\n    2:9:m:50 -> n").shortens("y\n\tat A.m(A.java:50)\n\tat A.m(A:51)", "2",
                "y\n\tat x.n(SourceFile:2)\n\tat x.m(SourceFile:51)\n");
    }

    private static void inlinedCalls() {
        Probe probe = loaded(MAPPING);
        probe.shortens("y\n\tat a.Util.help(Util.java:7)\n\tat a.Main.run(Main.java:13)\n"
                + "\tat a.Util.help(Util.java:7)\n\tat a.Util.help(Util.java:7)\n", "3",
                "y\n\tat x.a.a(SourceFile:4)\n\tat x.b.a(SourceFile:7)\n\tat x.b.a(SourceFile:7)\n");
        probe.shortens("y\n\tat a.Util.help(Util.java:7)\nCaused by: z\n\tat a.Main.run(M:13)\n", "2",
                "y\n\tat x.b.a(SourceFile:7)\nCaused by: z\n\tat x.a.run(SourceFile:13)\n");
    }

    private static void offsets() {
        Probe probe = loaded("A -> x:\n    10:14:m:20:24 -> n\n    10:14:o:7 -> n\n"
                + "    10:14:B.p:30:34 -> n\n");
        probe.shortens("y\n\tat A.m(A:23)\n\tat A.o(A:7)\n\tat B.p(B:33)", "1",
                "y\n\tat x.n(SourceFile:13)\n");
        probe.shortens("y\n\tat A.m(A:23)\n\tat A.o(A:7)\n\tat B.p(B:34)", "3",
                "y\n\tat x.m(SourceFile:23)\n\tat x.o(SourceFile:7)\n\tat B.p(B:34)\n");
        probe.shortens("y\n\tat A.m(A:25)\n\tat A.o(A:7)\n\tat B.p(B:35)", "3",
                "y\n\tat x.m(SourceFile:25)\n\tat x.o(SourceFile:7)\n\tat B.p(B:35)\n");
        probe.shortens("y\n\tat A.m(A:20)\n\tat A.o(A:8)\n\tat B.p(B:30)", "3",
                "y\n\tat x.m(SourceFile:20)\n\tat x.o(SourceFile:8)\n\tat B.p(B:30)\n");
        probe.shortens("y\n\tat A.m(A:20)\n\tat A.o(A)\n\tat B.p(B:30)", "3",
                "y\n\tat x.m(SourceFile:20)\n\tat x.o(SourceFile)\n\tat B.p(B:30)\n");
    }

    private static void mostLinesFirst() {
        String one = "    1:1:m:5 -> a\n";
        String two = "    2:2:m:5 -> b\n    2:2:m:6 -> b\n";
        String otherTwo = "    3:3:m:5 -> c\n    3:3:m:6 -> c\n";
        String trace = "y\n\tat A.m(A:5)\n\tat A.m(A:6)";
        loaded("A -> x:\n" + one + two + otherTwo).shortens(trace, "1",
                "y\n\tat x.b(SourceFile:2)\n");
        loaded("A -> x:\n" + otherTwo + two + one).shortens(trace, "1",
                "y\n\tat x.c(SourceFile:3)\n");
        loaded("A -> x:\n" + one + two + otherTwo).shortens("y\n\tat A.m(A:5)\n\tat A.m(A:7)", "2",
                "y\n\tat x.a(SourceFile:1)\n\tat x.m(SourceFile:7)\n");
        loaded("A -> x:\n" + "    m -> d\n" + one).shortens("y\n\tat A.m(A:5)\n\tat A.m(A:7)", "2",
                "y\n\tat x.a(SourceFile:1)\n\tat x.d(SourceFile:7)\n");
    }

    private static void withoutRange() {
        Probe probe = loaded(MAPPING);
        probe.shortens("y\n\tat a.Main.start(Main.java:20)\n\tat a.Main.main(Main.java)\n"
                + "\tat a.Main.stop(Native Method)\n\tat a.Util.no(Unknown Source)\n"
                + "\tat a.Util.no(Util.java)\n\tat x.a.a(Util.java:1)", "6",
                "y\n\tat x.a.b(SourceFile:20)\n\tat x.b.c(SourceFile)\n"
                + "\tat x.a.b(Native Method)\n\tat x.b.no(Unknown Source)\n"
                + "\tat x.b.no(SourceFile)\n\tat x.a.a(Util.java:1)\n");
        loaded("A -> x:\n    m -> a\n    m -> b").shortens("y\n\tat A.m(A)", "1",
                "y\n\tat x.a(SourceFile)\n");
    }

    private static void frameBounds() {
        Probe probe = loaded("A -> x:\n    1:1:m:5 -> a\n    1:1:m:6 -> a\n    1:1:m:7 -> a");
        probe.shortens("y\n\tat A.m(A:5)\n\tat A.m(A:6)", "2",
                "y\n\tat x.m(SourceFile:5)\n\tat x.m(SourceFile:6)\n");
        // frames of an earlier and longer trace are no frames of this one
        probe.shortens("y\n\tat A.m(A:5)\n\tat A.m(A:6)\n\tat A.m(A:7)", "1",
                "y\n\tat x.a(SourceFile:1)\n");
        probe.shortens("y\n\tat A.m(A:5)", "1", "y\n\tat x.m(SourceFile:5)\n");
    }

    private static void throwing() {
        Probe probe = new Probe();
        Probe.same("shorten() without a mapping", probe.shorten("a"), Probe.ILLEGAL_STATE);
        probe.load("A -> " + "s".repeat(40) + ":\n");
        probe.shorten("A");
        String print = probe.print();
        Probe.same("a print too long", probe.shorten("A\n" + "\tat A.m(Native Method)\n".repeat(20)),
                Probe.ILLEGAL_STATE);
        Probe.same("the print stays", probe.print(), print);
        Probe.same("the draft is empty", probe.shorten(""), Probe.ILLEGAL_ARGUMENT);
        Probe.same("wrong()", probe.desk.wrong(), 1);
    }
}
