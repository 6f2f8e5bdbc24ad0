/** Promises 5, 8, 9, 10 and 11: retrace, wrong, length, at and doubtful. */
public final class RetraceTest {
    private static final String MAPPING = "a.Main -> x.a:\n    1:3:run:10:12 -> a\n"
            + "    4:4:a.Util$In.help:7 -> a\n    4:4:run:13 -> a\n    stop -> b\n    start -> b\n"
            + "a.Util -> x.b:\n    5:9:help -> a\n    5:9:b.Big.go:70 -> a\n    6:20:other:1 -> a\n"
            + "b.$Big$In -> c:\n    go -> a\n    go -> a\n    2:3:go -> a\n";

    public static void main(String[] args) {
        headers();
        ranges();
        placesWithoutRange();
        doubtfulFrames();
        filesOfClasses();
        wrongTraces();
        limits();
        printsTooLong();
        charactersOfThePrint();
        Probe.finish("RetraceTest");
    }

    private static Probe loaded() {
        Probe probe = new Probe();
        Probe.same("load()", probe.load(MAPPING), "9");
        return probe;
    }

    private static void headers() {
        Probe probe = loaded();
        probe.retraces("x.a", "0", "a.Main\n");
        probe.retraces("x.a\n", "0", "a.Main\n");
        probe.retraces("x.a: ", "0", "a.Main: \n");
        probe.retraces("x.a: x.b: c", "0", "a.Main: x.b: c\n");
        probe.retraces("x.a: \tat ~!", "0", "a.Main: \tat ~!\n");
        probe.retraces("x.aa", "0", "x.aa\n");
        probe.retraces("a.Main", "0", "a.Main\n");
        probe.retraces("y\n\t... 0 more\nCaused by: c: c\n\t... 9999 more\nCaused by: x.b\n"
                + "Caused by: z: \n", "0",
                "y\n\t... 0 more\nCaused by: b.$Big$In: c\n\t... 9999 more\nCaused by: a.Util\n"
                + "Caused by: z: \n");
    }

    private static void ranges() {
        Probe probe = loaded();
        probe.retraces("y\n\tat x.a.a(S:1)\n\tat x.a.a(S.t:3)", "2",
                "y\n\tat a.Main.run(Main.java:10)\n\tat a.Main.run(Main.java:12)\n");
        probe.retraces("y\n\tat x.a.a(S:4)", "2",
                "y\n\tat a.Util$In.help(Util.java:7)\n\tat a.Main.run(Main.java:13)\n");
        probe.retraces("y\n\tat x.b.a(S:7)", "2",
                "y\n\tat a.Util.help(Util.java:7)\n\tat b.Big.go(Big.java:70)\n");
        probe.retraces("y\n\tat x.b.a(S:10)", "1", "y\n\tat a.Util.other(Util.java:1)\n");
        probe.retraces("y\n\tat c.a(S:2)", "1", "y\n\tat b.$Big$In.go($Big.java:2)\n");
        probe.load("A -> x:\n    1:1:m -> n\nB -> y:\n    2:2:p -> n");
        probe.retraces("z\n\tat x.n(S:2)\n\tat y.n(S:1)", "2",
                "z\n\tat A.m(A.java:2)\n\tat B.p(B.java:1)\n");
    }

    private static void placesWithoutRange() {
        Probe probe = loaded();
        probe.retraces("y\n\tat x.a.a(S:5)", "1", "y\n\tat a.Main.run(Main.java:5)\n");
        probe.retraces("y\n\tat x.a.a(S:0)", "1", "y\n\tat a.Main.run(Main.java:0)\n");
        probe.retraces("y\n\tat x.a.a(S)", "1", "y\n\tat a.Main.run(Main.java)\n");
        probe.retraces("y\n\tat x.b.a(S)", "1", "y\n\tat b.Big.go(Big.java)\n");
        probe.retraces("y\n\tat x.b.a(S.t:21)", "1", "y\n\tat b.Big.go(Big.java:21)\n");
        probe.retraces("y\n\tat x.b.a(Unknown Source)", "1", "y\n\tat b.Big.go(Unknown Source)\n");
        probe.retraces("y\n\tat x.b.zz(Native Method)", "1",
                "y\n\tat a.Util.zz(Native Method)\n");
        probe.retraces("y\n\tat x.b.zz(S.t:77)", "1", "y\n\tat a.Util.zz(Util.java:77)\n");
        probe.retraces("y\n\tat q.b.a(S.t:77)\n\tat q.b.a(S)\n\tat q.b.a(Native Method)", "3",
                "y\n\tat q.b.a(S.t:77)\n\tat q.b.a(S)\n\tat q.b.a(Native Method)\n");
    }

    private static void doubtfulFrames() {
        Probe probe = loaded();
        probe.retrace("y\n\tat x.a.b(S:1)\n\tat x.a.a(S)\n\tat x.b.a(S)\n\tat c.a(S)\n"
                + "\tat x.a.a(S:1)\n\tat x.a.c(S)\n\tat q.b(S)\nCaused by: y\n\tat x.a.b(S)");
        Probe.same("doubtful()", probe.desk.doubtful(), 3);
        probe.shorten("y");
        Probe.same("doubtful() behind shorten()", probe.desk.doubtful(), 3);
        probe.retrace("y\nz");
        Probe.same("doubtful() behind a wrong trace", probe.desk.doubtful(), 3);
        probe.report("y\n\tat x.a.b(S:1)");
        Probe.same("doubtful() behind report()", probe.desk.doubtful(), 1);
        probe.retrace("y");
        Probe.same("doubtful() behind retrace()", probe.desk.doubtful(), 0);
        probe.load("a -> b:\n    c.d.m -> n\n    d.m -> n");
        probe.retrace("y\n\tat b.n(S)");
        Probe.same("doubtful() of different classes", probe.desk.doubtful(), 1);
        probe.load("a -> b:\n    m -> n\n    1:2:o -> n\n    1:2:a.m -> n\nc -> d:\n    o -> n");
        probe.retrace("y\n\tat b.n(S)");
        Probe.same("doubtful() of groups that end alike", probe.desk.doubtful(), 0);
    }

    private static void filesOfClasses() {
        String[] reals = {"A", "a.B", "A$B$C", "$A", "$A$B", "$$A", "a$b.C", "A$"};
        String[] files = {"A", "B", "A", "$A", "$A", "$", "C", "A"};
        for (int i = 0; i < reals.length; i++) {
            Probe probe = new Probe();
            probe.load(reals[i] + " -> x:\n    3:4:m -> n");
            String frame = "\tat " + reals[i] + ".m(" + files[i] + ".java";
            probe.retraces("y\n\tat x.m(S)\n\tat x.n(S:3)", "2",
                    "y\n" + frame + ")\n" + frame + ":3)\n");
        }
    }

    private static void wrongTraces() {
        String[] firstLines = {"", "\n", "\na", "a b", "a:", "a:b", "a :b", " a", "a.", "a..b", "1",
            "\tat a.b(C)", "Caused by: a", "\t... 1 more", "a".repeat(41)};
        for (String text : firstLines) {
            Probe.isNoTrace(text, 1);
        }
        String[] secondLines = {"", "b", " \tat b.c(D)", "\tat b(D)", "\tat b.c", "\tat b.c()",
            "\tat b.c(D:)", "\tat b.c(D:01)", "\tat b.c(D:10000)", "\tat b.c(D.e.f)", "\tat b.c(.D)",
            "\tat b.c(D.)", "\tat b.c(D.:1)", "\tat b.c(Unknown Source:1)", "\tat b.c(Native Method:1)",
            "\tat b.c(Unknown)x", "\tat b.c(D) ", "\tat  b.c(D)", "\tat b.c (D)", "\tatb.c(D)",
            "\tat b.c(D:1", "\tat b.c(D:x)", "\tat b.c(native method)", "\tat b.1c(D)",
            "\tat " + "b".repeat(20) + "." + "c".repeat(20) + "(D)",
            "\tat b.c(" + "D".repeat(41) + ")", "\tat b.c(" + "D".repeat(41) + ".e)",
            "\tat b.c(D." + "e".repeat(41) + ")",
            "\t... more", "\t...1 more", "\t... 01 more", "\t... 10000 more", "\t... 1 more ",
            "\t... 1", "... 1 more", "Caused by: ", "Caused by: a:", "Caused by:a",
            "Caused by: Caused by: a", "\tCaused by: a"};
        for (String line : secondLines) {
            Probe.isNoTrace("a\n" + line + "\n", 2);
            Probe.isNoTrace("a: b\n" + line + "\nCaused by: c", 2);
        }
        Probe.isNoTrace("a\n\n", 2);
        Probe.isNoTrace("a\n\tat b.c(D)\n\n\n", 3);
        Probe.isNoTrace("a\n\t... 1 more\n\t... 1 more", 3);
        Probe.isNoTrace("a\n\t... 1 more\n\tat b.c(D)", 3);
        Probe.isNoTrace("a\nCaused by: b\n\t... 1 more\n\tat b.c(D)", 4);
    }

    private static void limits() {
        Probe probe = new Probe();
        probe.load("");
        String longCall = "\tat " + "b".repeat(20) + "." + "c".repeat(19) + "(D)\n";
        probe.retraces("a\n" + longCall, "1", "a\n" + longCall);
        String longClass = "b".repeat(20) + "." + "c".repeat(19);
        probe.retraces(longClass + ": d\nCaused by: " + longClass, "0",
                longClass + ": d\nCaused by: " + longClass + "\n");
        Probe.isNoTrace("a\nCaused by: " + longClass + "c", 2);
        String longFile = "\tat b.c(" + "D".repeat(40) + "." + "e".repeat(40) + ":9999)\n";
        probe.retraces("a\n" + longFile, "1", "a\n" + longFile);
        String frames = "\tat b.c(D:0)\n".repeat(20);
        probe.retraces("a\n" + frames, "20", "a\n" + frames);
        Probe.isNoTrace("a\n" + frames + "\tat b.c(D)\n", 22);
        Probe.isNoTrace("a\n" + frames + "Caused by: b\n\tat b.c(D)\n", 23);
        String causes = "Caused by: b\n".repeat(3);
        probe.retraces("a\n" + causes, "0", "a\n" + causes);
        Probe.isNoTrace("a\n" + causes + "Caused by: b\n", 5);
    }

    private static void printsTooLong() {
        Probe probe = new Probe();
        probe.load("a" + "A".repeat(39) + " -> b:\n    1:1:m -> n\n    1:1:m -> n\n    1:1:m -> n\n"
                + "c" + "C".repeat(30) + " -> d:\n");
        // three frames come of one of b.n, each of 4 + 40 + 3 + 45 + 2 + 2 = 96 characters
        String start = "x\n" + "\tat b.n(D:1)\n".repeat(3) + "\tat b.z(D)\n";
        Probe.same("frames", probe.retrace(start), "10");
        int size = 2 + 9 * 96 + 94;
        Probe.same("length()", probe.desk.length(), size);
        String full = start + "\t... 1 more\nCaused by: " + "y".repeat(1000 - size - 12 - 12) + "\n";
        Probe.same("a print of 1000", probe.retrace(full), "10");
        Probe.same("another print of 1000", probe.retrace(full), "10");
        Probe.same("length() of it", probe.desk.length(), 1000);
        String print = probe.print();
        probe.type(full.replace("1 more", "10 more"));
        Probe.same("a print of 1001", Probe.answer(probe.desk::retrace), Probe.ILLEGAL_STATE);
        Probe.same("the draft behind it", Probe.answer(probe.desk::retrace), Probe.ILLEGAL_ARGUMENT);
        Probe.same("report with a print of 1001", probe.report(full.replace("1 more", "10 more")),
                Probe.ILLEGAL_STATE);
        Probe.same("crashes()", probe.desk.crashes(), 0);
        Probe.same("a print of far more", probe.retrace("x\n" + "\tat b.n(D:1)\n".repeat(20)),
                Probe.ILLEGAL_STATE);
        Probe.same("the print stays", probe.print(), print);
        Probe.same("doubtful() stays", probe.desk.doubtful(), 0);
    }

    private static void charactersOfThePrint() {
        Probe probe = new Probe();
        probe.load("");
        probe.retrace("a: \t~");
        Probe.same("length()", probe.desk.length(), 6);
        int[] codes = {97, 58, 32, 9, 126, 10};
        for (int i = 0; i < codes.length; i++) {
            Probe.same("at(" + i + ")", probe.desk.at(i), codes[i]);
        }
        for (int i : new int[] {6, 7, 999, 1000, -1, Integer.MIN_VALUE, Integer.MAX_VALUE}) {
            Probe.same("at(" + i + ")", Probe.answer(() -> probe.desk.at(i)), Probe.OUT_OF_BOUNDS);
        }
        probe.retrace("a: a longer one");
        probe.retrace("b");
        Probe.same("at(2) of a shorter print", Probe.answer(() -> probe.desk.at(2)),
                Probe.OUT_OF_BOUNDS);
    }
}
