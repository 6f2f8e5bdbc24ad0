/** Promises 1 to 3: a new object, put and scrap. */
public final class DraftTest {
    public static void main(String[] args) {
        newObject();
        putRefusesWrongSizes();
        putRefusesWrongCodes();
        putIgnoresHigherBits();
        putFillsTheDraft();
        scrapEmpties();
        Probe.finish("DraftTest");
    }

    private static void newObject() {
        RetraceDesk desk = new RetraceDesk();
        Probe.same("length()", desk.length(), 0);
        Probe.same("at(0)", Probe.answer(() -> desk.at(0)), Probe.OUT_OF_BOUNDS);
        Probe.same("doubtful()", desk.doubtful(), 0);
        Probe.same("wrong()", desk.wrong(), 0);
        Probe.same("crashes()", desk.crashes(), 0);
        Probe.same("groups(0)", Probe.answer(() -> desk.groups(0)), Probe.NO_SUCH_ELEMENT);
        Probe.same("key(0)", Probe.longAnswer(() -> desk.key(0)), Probe.NO_SUCH_ELEMENT);
        Probe.same("reports(0, 0)", Probe.answer(() -> desk.reports(0, 0)), Probe.NO_SUCH_ELEMENT);
        Probe.same("retrace() of nothing", Probe.answer(desk::retrace), Probe.ILLEGAL_ARGUMENT);
        for (String call : new String[] {"retrace", "shorten", "report"}) {
            Probe probe = new Probe();
            probe.type("a");
            Probe.same(call + "() without a mapping", Probe.answer(() -> call.equals("retrace")
                    ? probe.desk.retrace()
                    : call.equals("shorten") ? probe.desk.shorten() : probe.desk.report()),
                    Probe.ILLEGAL_STATE);
            Probe.same("wrong() behind that", probe.desk.wrong(), 0);
            Probe.same("load() of the draft it left", Probe.answer(probe.desk::load), "0");
        }
    }

    private static void putRefusesWrongSizes() {
        Probe probe = new Probe();
        for (int n : new int[] {0, -1, 9, 16, Integer.MIN_VALUE, Integer.MAX_VALUE}) {
            Probe.same("put(" + n + ")", probe.desk.put(n, 0x6161616161616161L), false);
        }
        for (int n = 1; n <= 8; n++) {
            Probe.same("put(" + n + ")", probe.desk.put(n, 0x6161616161616161L), true);
        }
        Probe.same("load() of 36 characters", Probe.answer(probe.desk::load),
                Probe.ILLEGAL_ARGUMENT);
        probe.load("");
        probe.desk.put(0, 'b');
        probe.desk.put(9, 'b');
        probe.retraces("a", "0", "a\n");
    }

    private static void putRefusesWrongCodes() {
        for (int code = 0; code < 256; code++) {
            boolean due = code == 9 || code == 10 || (code >= 32 && code <= 126);
            Probe.same("put of code " + code, new RetraceDesk().put(1, code), due);
            Probe.same("put of code " + code + " as the highest",
                    new RetraceDesk().put(8, (long) code << 56 | 0x61616161616161L), due);
        }
        Probe probe = new Probe();
        probe.load("");
        probe.type("a");
        Probe.same("put of a wrong last code", probe.desk.put(3, 0x62621fL), false);
        Probe.same("put of a wrong first code", probe.desk.put(3, 0x7f6262L), false);
        probe.retraces("c", "0", "ac\n");
    }

    private static void putIgnoresHigherBits() {
        Probe probe = new Probe();
        probe.load("");
        Probe.same("put(2, ..)", probe.desk.put(2, 0xffff000000006162L), true);
        Probe.same("put(8, ..)", probe.desk.put(8, Probe.codes("cdefghij")), true);
        probe.retraces("", "0", "abcdefghij\n");
    }

    private static void putFillsTheDraft() {
        Probe probe = new Probe();
        probe.load("");
        String text = "a: " + "x".repeat(597);
        Probe.same("600 characters", probe.type(text), true);
        Probe.same("one more", probe.desk.put(1, 'x'), false);
        Probe.same("none more", probe.desk.put(0, 'x'), false);
        probe.retraces("", "0", text + "\n");
        Probe.same("597 characters", probe.type("a: " + "x".repeat(594)), true);
        Probe.same("four more", probe.desk.put(4, 0x78787878L), false);
        Probe.same("three more", probe.desk.put(3, 0x787878L), true);
        probe.retraces("", "0", text + "\n");
    }

    private static void scrapEmpties() {
        Probe probe = new Probe();
        probe.load("");
        probe.retrace("x.y: kept");
        probe.type("b:::");
        probe.desk.scrap();
        Probe.same("print behind scrap()", probe.print(), "x.y: kept\n");
        probe.retraces("a", "0", "a\n");
        probe.desk.scrap();
        Probe.same("retrace() behind scrap()", Probe.answer(probe.desk::retrace),
                Probe.ILLEGAL_ARGUMENT);
    }
}
