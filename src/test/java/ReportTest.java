/** Promises 7 and 13 to 15: report, crashes, key and reports. */
public final class ReportTest {
    private static final String MAPPING = "a.M1 -> x:\n    1:1:run:5 -> a\n    1:1:go:6 -> a\n"
            + "    stop -> b\n    start -> b\n";

    public static void main(String[] args) {
        printAndDoubtful();
        keys();
        framesOfKeys();
        countsOfReports();
        seventeenthGroup();
        throwing();
        Probe.finish("ReportTest");
    }

    private static Probe loaded() {
        Probe probe = new Probe();
        probe.load(MAPPING);
        return probe;
    }

    /** The key, worked out from the text that is mixed into it. */
    private static long keyOf(String text) {
        long h = -3750763034362895579L;
        for (int i = 0; i < text.length(); i++) {
            h = (h ^ text.charAt(i)) * 1099511628211L;
        }
        return h;
    }

    private static void hasKey(String trace, String mixed) {
        Probe probe = loaded();
        Probe.same("report of\n" + trace, probe.report(trace), "0");
        Probe.same("key of\n" + trace, probe.desk.key(0), keyOf(mixed));
    }

    private static void printAndDoubtful() {
        Probe probe = loaded();
        Probe.same("report()", probe.report("x: 1\n\tat x.a(S:1)\n\tat x.b(S)"), "0");
        Probe.same("print", probe.print(), "a.M1: 1\n\tat a.M1.run(M1.java:5)\n"
                + "\tat a.M1.go(M1.java:6)\n\tat a.M1.stop(M1.java)\n");
        Probe.same("doubtful()", probe.desk.doubtful(), 1);
    }

    private static void keys() {
        hasKey("y", "y:\n");
        hasKey("y: ", "y:\n");
        hasKey("y: z", "y:z\n");
        hasKey("y:  z", "y: z\n");
        hasKey("y: z: 1", "y:z: 0\n");
        hasKey("y1.z22: 123 a4b 5.6", "y0.z0:0 a0b 0.0\n");
        hasKey("y: 0", "y:0\n");
        hasKey("x: x 77", "a.M0:x 0\n");
        hasKey("x\nCaused by: y2: 3\nCaused by: x", "a.M0:\ny0:0\na.M0:\n");
        hasKey("y\n\t... 5 more\nCaused by: z", "y:\nz:\n");
        hasKey("y: Caused by: z\n", "y:Caused by: z\n");
    }

    private static void framesOfKeys() {
        hasKey("y\n\tat x.a(S:1)\n\tat p2.q3(S:4)", "y:\na.M1.run\na.M1.go\np2.q3\n");
        hasKey("y\n\tat p.q(S:1)\n\tat p.q(T)\n\tat p.r(S)\n\tat p.q(S)",
                "y:\np.q\np.r\np.q\n");
        hasKey("y\n\tat p.q(S)\n\tat p.qq(S)\n\tat pp.q(S)\n\tat p.q(S)",
                "y:\np.q\np.qq\npp.q\np.q\n");
        hasKey("y\n\tat p.a(S)\n\tat p.b(S)\n\tat p.b(S)\n\tat p.c(S)\n\tat p.d(S)\n\tat p.e(S)\n"
                + "\tat p.e(S)\n\tat p.f(S)\n\tat p.f(S)\n\tat p.g(S)\n\t... 1 more\n"
                + "Caused by: z\n\tat p.f(S)\n\tat p.g(S)",
                "y:\np.a\np.b\np.c\np.d\np.e\np.f\nz:\np.f\np.g\n");
        hasKey("y\n\tat p.a(S)\nCaused by: y\n\tat p.a(S)", "y:\np.a\ny:\np.a\n");
        hasKey("y\n" + "\tat x.a(S:1)\n".repeat(4),
                "y:\n" + "a.M1.run\na.M1.go\n".repeat(3));
    }

    private static void countsOfReports() {
        Probe probe = loaded();
        String[] traces = {"x: 1", "y: 1", "x: 22", "a.M9: 3", "z", "y: 1000"};
        String[] due = {"0", "1", "0", "0", "2", "1"};
        for (int i = 0; i < traces.length; i++) {
            Probe.same("report of " + traces[i], probe.report(traces[i]), due[i]);
            probe.report("y\nz");
            probe.retrace("x: 1");
        }
        int[][] counts = {{3, 1, 4}, {2, 2, 6}, {1, 5, 5}};
        for (int crash = 0; crash < counts.length; crash++) {
            for (int which = 0; which < 3; which++) {
                Probe.same("reports(" + crash + ", " + which + ")",
                        probe.desk.reports(crash, which), counts[crash][which]);
            }
        }
        Probe.same("crashes()", probe.desk.crashes(), 3);
        Probe.same("key(1)", probe.desk.key(1), keyOf("y:0\n"));
    }

    private static void seventeenthGroup() {
        Probe probe = loaded();
        for (int i = 0; i < 16; i++) {
            Probe.same("report", probe.report("y: " + (char) ('a' + i)), Integer.toString(i));
        }
        Probe.same("another of the last group", probe.report("y: p\n\t... 1 more"), "15");
        Probe.same("a 17th group", probe.report("y: z\n\tat x.b(S)"), Probe.ILLEGAL_STATE);
        Probe.same("its draft", probe.report(""), Probe.ILLEGAL_ARGUMENT);
        Probe.same("the print stays", probe.print(), "y: p\n\t... 1 more\n");
        Probe.same("doubtful() stays", probe.desk.doubtful(), 0);
        Probe.same("crashes()", probe.desk.crashes(), 16);
        Probe.same("one of an old group", probe.report("y: a"), "0");
        Probe.same("its last report", probe.desk.reports(0, 2), 18);
        Probe.same("key(15)", probe.desk.key(15), keyOf("y:p\n"));
    }

    private static void throwing() {
        Probe probe = loaded();
        probe.report("y");
        for (int crash : new int[] {1, 15, 16, -1, Integer.MIN_VALUE, Integer.MAX_VALUE}) {
            Probe.same("key(" + crash + ")", Probe.longAnswer(() -> probe.desk.key(crash)),
                    Probe.NO_SUCH_ELEMENT);
            for (int which : new int[] {-1, 0, 2, 3}) {
                Probe.same("reports(" + crash + ", " + which + ")",
                        Probe.answer(() -> probe.desk.reports(crash, which)), Probe.NO_SUCH_ELEMENT);
            }
        }
        for (int which : new int[] {-1, 3, Integer.MIN_VALUE, Integer.MAX_VALUE}) {
            Probe.same("reports(0, " + which + ")",
                    Probe.answer(() -> probe.desk.reports(0, which)), Probe.ILLEGAL_ARGUMENT);
        }
        Probe.same("key(0)", probe.desk.key(0), keyOf("y:\n"));
    }
}
