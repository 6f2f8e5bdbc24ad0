import java.util.Map;

/** Promises 7 and 13 to 15, and what the terms say of crashes. */
public final class ReportTest {
    private static final String MAPPING = "a.M1 -> x:\n    1:1:run:5 -> a\n    1:1:go:6 -> a\n"
            + "    stop -> b\n    start -> b\n";

    public static void main(String[] args) {
        wrapping();
        headersOfKeys();
        rowsOfFigures();
        framesOfKeys();
        firstSixFrames();
        equalNeighbours();
        sixAfterEqualOnes();
        causesOfKeys();
        retracedNames();
        sameKeyIsOneGroup();
        otherKeysAreOtherGroups();
        sameKeyOfOtherMappings();
        printAndDoubtful();
        orderOfGroups();
        atMostSixteenGroups();
        keysOfNoCrash();
        reportsOfNoCrash();
        countsOfReports();
        Probe.finish("ReportTest");
    }

    private static Probe loaded() {
        return Probe.loaded(MAPPING);
    }

    /** The key, worked out from the text that is mixed into it. */
    private static String keyOf(String text) {
        long h = -3750763034362895579L;
        for (int i = 0; i < text.length(); i++) {
            h = (h ^ text.charAt(i)) * 1099511628211L;
        }
        return Long.toString(h);
    }

    private static void hasKey(String trace, String mixed) {
        Probe probe = loaded();
        Probe.same("report() of\n" + trace, probe.report(trace), "0");
        Probe.same("key of\n" + trace, probe.key(0), keyOf(mixed));
    }

    private static void wrapping() {
        Probe.sentence("Crashes: h becomes (h xor its code) times 1099511628211, wrapping");
        Probe probe = loaded();
        String[] traces = {"y", "y: z", "x: x 77", "y\n\tat p.q(S)", "y1.z22: 123 a4b 5.6"};
        // worked out elsewhere, so that a slip in keyOf shows
        String[] keys = {"-5328091401778239584", "-8357246824693257970", "7673875548824093489",
            "2883532875434707841", "-5534846754259866931"};
        for (int i = 0; i < traces.length; i++) {
            Probe.same("report() of\n" + traces[i], probe.report(traces[i]), Integer.toString(i));
            Probe.same("key of\n" + traces[i], probe.key(i), keys[i]);
        }
    }

    private static void headersOfKeys() {
        Probe.sentence("Crashes: its class, a colon, its message (nothing if it has none) and a"
                + " newline");
        hasKey("y", "y:\n");
        hasKey("y\n", "y:\n");
        hasKey("y: ", "y:\n");
        hasKey("y: z", "y:z\n");
        hasKey("y:  z", "y: z\n");
        hasKey("y: : ", "y:: \n");
        hasKey("y: z: a", "y:z: a\n");
        hasKey("y: \tat p.q(S)", "y:\tat p.q(S)\n");
        hasKey("y: Caused by: z\n", "y:Caused by: z\n");
    }

    private static void rowsOfFigures() {
        Probe.sentence("Crashes: a 0 standing for each row of figures in the class and in the message");
        hasKey("y: 0", "y:0\n");
        hasKey("y: 9", "y:0\n");
        hasKey("y: 00", "y:0\n");
        hasKey("y: 1234567890", "y:0\n");
        hasKey("y: 1 2", "y:0 0\n");
        hasKey("y: 12a34", "y:0a0\n");
        hasKey("y: -1.5e10", "y:-0.0e0\n");
        hasKey("y: a/b:c", "y:a/b:c\n");
        hasKey("y1: 1", "y0:0\n");
        hasKey("y0", "y0:\n");
        hasKey("y1.z22: 123 a4b 5.6", "y0.z0:0 a0b 0.0\n");
        hasKey("y: z\nCaused by: y123z4: 5 67", "y:z\ny0z0:0 0\n");
        hasKey("y: " + "7".repeat(500), "y:0\n");
        // a row of figures in a class or a method of a frame stays
        hasKey("y\n\tat p12.q34(S:5)", "y:\np12.q34\n");
    }

    private static void framesOfKeys() {
        Probe.sentence("Crashes: class, point, method, newline");
        hasKey("y\n\tat p.q.r(S)", "y:\np.q.r\n");
        hasKey("y\n\tat p.q(S:1)\n\tat r.s(Native Method)\n\tat t.u(Unknown Source)",
                "y:\np.q\nr.s\nt.u\n");
        hasKey("y\n\tat p.q(S)\n\t... 3 more", "y:\np.q\n");
    }

    private static String frames(int count) {
        StringBuilder text = new StringBuilder();
        for (int i = 0; i < count; i++) {
            text.append("\tat p.").append((char) ('a' + i)).append("(S)\n");
        }
        return text.toString();
    }

    private static String calls(int count) {
        StringBuilder text = new StringBuilder();
        for (int i = 0; i < count; i++) {
            text.append("p.").append((char) ('a' + i)).append('\n');
        }
        return text.toString();
    }

    private static void firstSixFrames() {
        Probe.sentence("Crashes: for the first 6 frames of this one");
        for (int count = 0; count <= 20; count++) {
            hasKey("y\n" + frames(count), "y:\n" + calls(Math.min(count, 6)));
            hasKey("y\n" + frames(count) + "\t... 1 more\nCaused by: z\n" + frames(20 - count),
                    "y:\n" + calls(Math.min(count, 6)) + "z:\n" + calls(Math.min(20 - count, 6)));
        }
    }

    private static void equalNeighbours() {
        Probe.sentence("Crashes: equal ones (class and method) that follow one another being counted as"
                + " one and taken once");
        hasKey("y\n\tat p.q(S)\n\tat p.q(S)", "y:\np.q\n");
        hasKey("y\n\tat p.q(S:1)\n\tat p.q(T)\n\tat p.q(Native Method)\n\tat p.q(S:2)", "y:\np.q\n");
        hasKey("y\n\tat p.q(S)\n\tat p.r(S)\n\tat p.q(S)", "y:\np.q\np.r\np.q\n");
        hasKey("y\n\tat p.q(S)\n\tat p.qq(S)\n\tat p.q(S)", "y:\np.q\np.qq\np.q\n");
        hasKey("y\n\tat p.q(S)\n\tat pp.q(S)\n\tat p.p.q(S)", "y:\np.q\npp.q\np.p.q\n");
        hasKey("y\n\tat p.q1(S)\n\tat p.q2(S)", "y:\np.q1\np.q2\n");
        hasKey("y\n\tat p.q(S)\n\tat P.q(S)\n\tat p.Q(S)", "y:\np.q\nP.q\np.Q\n");
        hasKey("y\n" + "\tat p.q(S)\n".repeat(20), "y:\np.q\n");
    }

    private static void sixAfterEqualOnes() {
        Probe.sentence("Crashes: equal ones count as one among the first 6");
        for (int place = 0; place < 8; place++) {
            StringBuilder text = new StringBuilder("y\n");
            for (int i = 0; i < 8; i++) {
                text.append(("\tat p." + (char) ('a' + i) + "(S)\n").repeat(i == place ? 3 : 1));
            }
            hasKey(text.toString(), "y:\n" + calls(6));
        }
        hasKey("y\n\tat p.a(S)\n\tat p.a(S)\n\tat p.b(S)\n\tat p.b(S)\n\tat p.c(S)\n\tat p.c(S)\n"
                + "\tat p.d(S)\n\tat p.d(S)\n\tat p.e(S)\n\tat p.e(S)\n\tat p.f(S)\n\tat p.f(S)\n"
                + "\tat p.g(S)\n\tat p.f(S)", "y:\n" + calls(6));
        // the seventh is the same as the first again: it is still the seventh
        hasKey("y\n" + frames(6) + "\tat p.a(S)", "y:\n" + calls(6));
    }

    private static void causesOfKeys() {
        Probe.sentence("Crashes: for each header (causes too), in order; frames before the next header");
        hasKey("y\nCaused by: z", "y:\nz:\n");
        hasKey("y: 1\nCaused by: z: 2\nCaused by: y\nCaused by: w: ", "y:0\nz:0\ny:\nw:\n");
        hasKey("y\n\t... 5 more\nCaused by: z\n\t... 5 more", "y:\nz:\n");
        // equal frames of two headers do not follow one another
        hasKey("y\n\tat p.a(S)\nCaused by: y\n\tat p.a(S)", "y:\np.a\ny:\np.a\n");
        hasKey("y\n\tat p.a(S)\nCaused by: z\nCaused by: w\n\tat p.a(S)\n\tat p.a(S)",
                "y:\np.a\nz:\nw:\np.a\n");
        hasKey("y\n" + frames(8) + "Caused by: z\n" + frames(7),
                "y:\n" + calls(6) + "z:\n" + calls(6));
    }

    private static void retracedNames() {
        Probe.sentence("Crashes: the key of a trace as retracing writes it");
        hasKey("x: x 77", "a.M0:x 0\n");
        hasKey("x\nCaused by: x", "a.M0:\na.M0:\n");
        hasKey("y\n\tat x.a(S:1)\n\tat p2.q3(S:4)", "y:\na.M1.run\na.M1.go\np2.q3\n");
        hasKey("y\n\tat x.b(S)\n\tat x.c(S)\n\tat x.a(S)", "y:\na.M1.stop\na.M1.c\na.M1.go\n");
        // two frames of each: the first six are those of three
        hasKey("y\n" + "\tat x.a(S:1)\n".repeat(4), "y:\n" + "a.M1.run\na.M1.go\n".repeat(3));
        // a frame that is written anew may equal the one beside it
        hasKey("y\n\tat x.a(S:1)\n\tat a.M1.go(S)\n\tat x.a(S:9)", "y:\na.M1.run\na.M1.go\n");
    }

    private static void sameKeyIsOneGroup() {
        Probe.sentence("Crashes with the same key are one group");
        String[][] alike = {{"y", "y: ", "y\n", "y\n\t... 1 more"}, {"y: 1", "y: 22", "y: 0"},
            {"x", "a.M1", "a.M2", "a.M999"}, {"y\n\tat p.q(S)", "y\n\tat p.q(T:1)\n\tat p.q(S)"},
            {"y\n" + frames(6), "y\n" + frames(7), "y\n" + frames(6) + "\tat z.z(S)"},
            {"y\n\tat x.b(S)", "y\n\tat a.M1.stop(S)", "y\n\tat x.b(Native Method)"}};
        for (String[] traces : alike) {
            Probe probe = loaded();
            for (int i = 0; i < traces.length; i++) {
                Probe.same("report() of\n" + traces[i], probe.report(traces[i]), "0");
                Probe.same("crashes()", probe.crashes(), "1");
                Probe.same("reports(0, 0)", probe.reports(0, 0), Integer.toString(i + 1));
            }
        }
    }

    private static void otherKeysAreOtherGroups() {
        Probe.sentence("Crashes with other keys are other groups");
        String[] traces = {"y", "y: a", "y: b", "y: 1", "y: a1", "z", "y\nCaused by: y",
            "y\n\tat p.q(S)", "y\n\tat p.r(S)", "y\n" + frames(5), "y\n" + frames(6),
            "y\n\tat p1.q(S)", "y\n\tat p2.q(S)"};
        Probe probe = loaded();
        for (int i = 0; i < traces.length; i++) {
            Probe.same("report() of\n" + traces[i], probe.report(traces[i]), Integer.toString(i));
        }
    }

    private static void sameKeyOfOtherMappings() {
        Probe.sentence("Crashes: the key is of what retracing writes, whatever mapping was there");
        Probe probe = Probe.loaded("A -> x:\n    m -> n\n");
        Probe.same("the first mapping", probe.report("x: 1\n\tat x.n(S)"), "0");
        probe.load("A -> y:\n    1:1:m:7 -> o\n");
        Probe.same("another mapping", probe.report("y: 2\n\tat y.o(S:1)"), "0");
        Probe.same("the short names of the first", probe.report("x: 1\n\tat x.n(S)"), "1");
        probe.load("");
        Probe.same("real names", probe.report("A: 3\n\tat A.m(Native Method)"), "0");
        Probe.same("key(0)", probe.key(0), keyOf("A:0\nA.m\n"));
        Probe.same("key(1)", probe.key(1), keyOf("x:0\nx.n\n"));
        Probe.same("reports(0, 2)", probe.reports(0, 2), "4");
    }

    private static void printAndDoubtful() {
        Probe.sentence("Promise 7: retraced, as retrace() does it (also the print and doubtful are new)"
                + " and counted");
        Probe probe = loaded();
        Map<String, String> before = probe.state();
        Probe.same("report()", probe.report("x: 1\n\tat x.a(S:1)\n\tat x.b(S)"), "0");
        probe.shows("report()", before, "doubtful", "1", "print", "a.M1: 1\n\tat a.M1.run(M1.java:5)\n"
                + "\tat a.M1.go(M1.java:6)\n\tat a.M1.stop(M1.java)\n",
                "crashes", keyOf("a.M0:0\na.M1.run\na.M1.go\na.M1.stop\n") + " 1 1 1");
        before = probe.state();
        Probe.same("report()", probe.report("y"), "1");
        probe.shows("report()", before, "doubtful", "0", "print", "y\n",
                "crashes", before.get("crashes") + ", " + keyOf("y:\n") + " 1 2 2");
    }

    private static void orderOfGroups() {
        Probe.sentence("Crashes: numbered 0, 1, .. in the order in which they came; promise 13");
        Probe probe = loaded();
        String[] traces = {"c", "a", "c", "b", "a", "c"};
        String[] due = {"0", "1", "0", "2", "1", "0"};
        String[] counts = {"1", "2", "2", "3", "3", "3"};
        Probe.same("crashes() before", probe.crashes(), "0");
        for (int i = 0; i < traces.length; i++) {
            Probe.same("report() of " + traces[i], probe.report(traces[i]), due[i]);
            Probe.same("crashes()", probe.crashes(), counts[i]);
        }
        Probe.same("key(0)", probe.key(0), keyOf("c:\n"));
        Probe.same("key(1)", probe.key(1), keyOf("a:\n"));
        Probe.same("key(2)", probe.key(2), keyOf("b:\n"));
        Probe.same("key(3)", probe.key(3), Probe.NO_SUCH_ELEMENT);
    }

    private static void atMostSixteenGroups() {
        Probe.sentence("Crashes: at most 16; promise 7: IllegalStateException when it would be a 17th"
                + " group");
        Probe probe = loaded();
        for (int i = 0; i < 16; i++) {
            Probe.same("report()", probe.report("y: " + (char) ('a' + i)), Integer.toString(i));
        }
        Probe.same("another of the last group", probe.report("y: p\n\t... 1 more"), "15");
        Map<String, String> before = probe.state();
        Probe.same("print", before.get("print"), "y: p\n\t... 1 more\n");
        for (int i = 0; i < 3; i++) {
            Probe.same("a 17th group", probe.report("z\n\tat x.b(S)"), Probe.ILLEGAL_STATE);
            probe.shows("a 17th group", before);
        }
        Probe.same("crashes()", probe.crashes(), "16");
        Probe.same("key(15)", probe.key(15), keyOf("y:p\n"));
        Probe.same("key(16)", probe.key(16), Probe.NO_SUCH_ELEMENT);
        Probe.same("reports(16, 0)", probe.reports(16, 0), Probe.NO_SUCH_ELEMENT);
        Probe.same("the first group again", probe.report("y: a"), "0");
        Probe.same("its last report", probe.reports(0, 2), "18");
        Probe.same("retrace() of a 17th", probe.retrace("z\n\tat x.b(S)"), "1");
        Probe.same("doubtful()", probe.doubtful(), "1");
        Probe.same("a wrong trace", probe.report("z\nz"), Probe.ILLEGAL_ARGUMENT);
        Probe.same("wrong()", probe.wrong(), "2");
    }

    private static void keysOfNoCrash() {
        Probe.sentence("Promise 14: NoSuchElementException when there is none such");
        for (int count = 0; count <= 16; count++) {
            Probe probe = loaded();
            for (int i = 0; i < count; i++) {
                probe.report("" + (char) ('a' + i));
            }
            Map<String, String> before = probe.state();
            for (int i = 0; i < count; i++) {
                Probe.same("key(" + i + ")", probe.key(i), keyOf((char) ('a' + i) + ":\n"));
            }
            for (int i : new int[] {count, count + 1, 16, 17, -1, Integer.MIN_VALUE,
                Integer.MAX_VALUE}) {
                Probe.same("key(" + i + ") of " + count, probe.key(i), Probe.NO_SUCH_ELEMENT);
            }
            probe.shows("key()", before);
        }
    }

    private static void reportsOfNoCrash() {
        Probe.sentence("Promise 15: NoSuchElementException when there is no such group; else"
                + " IllegalArgumentException when which is not 0 .. 2");
        int[] noWhich = {-1, 3, 4, Integer.MIN_VALUE, Integer.MAX_VALUE};
        for (int count : new int[] {0, 1, 2, 15, 16}) {
            Probe probe = loaded();
            for (int i = 0; i < count; i++) {
                probe.report("" + (char) ('a' + i));
            }
            Map<String, String> before = probe.state();
            for (int crash : new int[] {count, 16, -1, Integer.MIN_VALUE, Integer.MAX_VALUE}) {
                for (int which : new int[] {-1, 0, 1, 2, 3, Integer.MIN_VALUE, Integer.MAX_VALUE}) {
                    Probe.same("reports(" + crash + ", " + which + ") of " + count,
                            probe.reports(crash, which), Probe.NO_SUCH_ELEMENT);
                }
            }
            for (int which : noWhich) {
                for (int crash = 0; crash < count; crash += 15) {
                    Probe.same("reports(" + crash + ", " + which + ") of " + count,
                            probe.reports(crash, which), Probe.ILLEGAL_ARGUMENT);
                }
            }
            // only load() and the readers of traces make wrong() new
            probe.shows("reports()", before);
        }
    }

    private static void countsOfReports() {
        Probe.sentence("Promise 15: how often it was reported (which 0), and as how manieth report"
                + " first (1) and last (2), from 1 on");
        Probe probe = loaded();
        String[] traces = {"x: 1", "y: 1", "x: 22", "a.M9: 3", "z", "y: 1000"};
        String[] due = {"0", "1", "0", "0", "2", "1"};
        for (int i = 0; i < traces.length; i++) {
            Probe.same("report() of " + traces[i], probe.report(traces[i]), due[i]);
            // none of these is a report
            probe.report("y\nz");
            probe.retrace("x: 1");
            probe.shorten("x: 1");
            probe.load(MAPPING);
        }
        int[][] counts = {{3, 1, 4}, {2, 2, 6}, {1, 5, 5}};
        for (int crash = 0; crash < counts.length; crash++) {
            for (int which = 0; which < 3; which++) {
                Probe.same("reports(" + crash + ", " + which + ")", probe.reports(crash, which),
                        Integer.toString(counts[crash][which]));
            }
        }
        probe = loaded();
        probe.report("y");
        for (int which = 0; which < 3; which++) {
            Probe.same("reports(0, " + which + ") of one report", probe.reports(0, which), "1");
        }
        probe = new Probe();
        Probe.same("report() without a mapping", probe.report("y"), Probe.ILLEGAL_STATE);
        probe.load("");
        probe.report("y");
        Probe.same("reports(0, 1) behind a report() that threw", probe.reports(0, 1), "1");
    }
}
