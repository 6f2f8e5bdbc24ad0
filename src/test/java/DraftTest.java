import java.util.Map;

/** Promises 1 to 3, and what the terms say of the draft. */
public final class DraftTest {
    private static final String[] READERS = {"retrace", "shorten", "report"};
    private static final int[] WRONG_SIZES = {0, -1, -8, 9, 10, 16, 257, 264, Integer.MIN_VALUE,
        Integer.MIN_VALUE + 1, Integer.MAX_VALUE};

    public static void main(String[] args) {
        newObject();
        newObjectHasNoMapping();
        objectsSideBySide();
        putTakesOneToEight();
        putTakesTheLowestBits();
        putTakesTheHighestFirst();
        putRefusesCodes();
        putRefusesAllForOneCode();
        putFillsTheDraft();
        putDoesNotOverfill();
        linesAreNumberedFromOne();
        scrapEmpties();
        lastCallsOfAnObject();
        Probe.finish("DraftTest");
    }

    private static void newObject() {
        Probe.sentence("Promise 1: an empty draft, an empty print");
        Probe probe = new Probe();
        Map<String, String> state = probe.state();
        Probe.same("draft", state.get("draft"), "0");
        Probe.same("print", state.get("print"), "");
        Probe.same("groups", state.get("groups"), "");
        Probe.same("crashes", state.get("crashes"), "");
        Probe.same("length()", probe.length(), "0");
        Probe.same("doubtful()", probe.doubtful(), "0");
        Probe.same("wrong()", probe.wrong(), "0");
        Probe.same("crashes()", probe.crashes(), "0");
        for (int i : new int[] {-1, 0, 1}) {
            Probe.same("at", probe.at(i), Probe.OUT_OF_BOUNDS);
            Probe.same("groups", probe.groups(i), Probe.NO_SUCH_ELEMENT);
            Probe.same("key", probe.key(i), Probe.NO_SUCH_ELEMENT);
            Probe.same("reports", probe.reports(i, 0), Probe.NO_SUCH_ELEMENT);
            Probe.same("reports", probe.reports(i, 3), Probe.NO_SUCH_ELEMENT);
        }
        probe.shows("questions to a new object", state);
    }

    private static void newObjectHasNoMapping() {
        Probe.sentence("Promise 1: no mapping");
        for (String name : READERS) {
            Probe probe = new Probe();
            Map<String, String> before = probe.state();
            Probe.same(name + "() of a trace", probe.read(name, "a\n\tat b.c(D)"),
                    Probe.ILLEGAL_STATE);
            probe.shows(name + "() without a mapping", before);
            Probe.same(name + "() of no lines", probe.read(name, ""), Probe.ILLEGAL_ARGUMENT);
            probe.shows(name + "() of no lines", before, "wrong", "1");
        }
    }

    private static void objectsSideBySide() {
        Probe.sentence("Promise 1: a new object has nothing of the others, and they nothing of it");
        Map<String, String> fresh = new Probe().state();
        Probe old = Probe.used().type("kept");
        Map<String, String> before = old.state();
        Probe young = new Probe();
        young.shows("another object", fresh);
        young.load("A -> x:\n    m -> n\n");
        young.report("x: 2\n\tat x.n(S:1)");
        young.report("-");
        young.type("more");
        old.shows("calls of another object", before);
        old.scrap();
        young.shows("scrap() of another object", fresh, "draft", "4", "groups", "1", "wrong", "1",
                "print", "A: 2\n\tat A.m(A.java:1)\n", "crashes", Probe.ANY, "renames", Probe.ANY);
    }

    private static void putTakesOneToEight() {
        Probe.sentence("Promise 2: false when n is not 1 .. 8");
        for (int n : WRONG_SIZES) {
            for (long codes : new long[] {0x6161616161616161L, 'a', 0}) {
                Probe probe = Probe.used().type("kept");
                Map<String, String> before = probe.state();
                Probe.same("put(" + n + ")", probe.put(n, codes), "false");
                probe.shows("put(" + n + ")", before);
            }
        }
        for (int n = 1; n <= 8; n++) {
            Probe probe = Probe.used().type("kept");
            Map<String, String> before = probe.state();
            Probe.same("put(" + n + ")", probe.put(n, 0x6161616161616161L), "true");
            probe.shows("put(" + n + ")", before, "draft", Integer.toString(4 + n));
            probe.retraces("", "0", "kept" + "a".repeat(n) + "\n");
        }
    }

    private static void putTakesTheLowestBits() {
        Probe.sentence("Promise 2: the lowest 8 * n bits of codes");
        for (int n = 1; n <= 7; n++) {
            for (long high : new long[] {-1L, 1L, 0x7f7f7f7f7f7f7f7fL, 0x6262626262626262L}) {
                Probe probe = Probe.loaded("");
                long low = Probe.codes("a".repeat(n));
                Probe.same("put(" + n + ")", probe.put(n, high << (8 * n) | low), "true");
                probe.retraces("", "0", "a".repeat(n) + "\n");
            }
        }
    }

    private static void putTakesTheHighestFirst() {
        Probe.sentence("Promise 2: the highest first");
        Probe probe = Probe.loaded("");
        Probe.same("put(8)", probe.put(8, 0x6162636465666768L), "true");
        Probe.same("put(3)", probe.put(3, 0x696a6bL), "true");
        Probe.same("put(1)", probe.put(1, 0x6cL), "true");
        probe.retraces("", "0", "abcdefghijkl\n");
    }

    private static void putRefusesCodes() {
        Probe.sentence("Terms, the draft: each a newline, a tab, or of the codes 32 .. 126");
        for (int code = 0; code < 256; code++) {
            boolean isFine = code == 9 || code == 10 || (code >= 32 && code <= 126);
            String due = Boolean.toString(isFine);
            Probe.same("put of code " + code, new Probe().put(1, code), due);
            for (int place = 0; place < 8; place++) {
                long codes = 0x6161616161616161L & ~(255L << (8 * place))
                        | (long) code << (8 * place);
                Probe.same("put of code " + code + " at " + place, new Probe().put(8, codes), due);
            }
            if (isFine && code != '\n') {
                Probe.loaded("").retraces("a: " + (char) code, "0", "a: " + (char) code + "\n");
            }
        }
    }

    private static void putRefusesAllForOneCode() {
        Probe.sentence("Promise 2: false when one is not as said: none is appended");
        for (int bad : new int[] {0, 8, 11, 13, 31, 127, 128, 255}) {
            for (int place = 0; place < 3; place++) {
                Probe probe = Probe.used().type("kept");
                Map<String, String> before = probe.state();
                long codes = 0x626262L & ~(255L << (8 * place)) | (long) bad << (8 * place);
                Probe.same("put of code " + bad, probe.put(3, codes), "false");
                probe.shows("put of code " + bad, before);
                probe.retraces("c", "0", "keptc\n");
            }
        }
        Probe probe = Probe.used();
        Probe.same("put(8, -1)", probe.put(8, -1L), "false");
        Probe.same("put(8, MIN)", probe.put(8, Long.MIN_VALUE), "false");
        Probe.same("draft", probe.state().get("draft"), "0");
    }

    private static void putFillsTheDraft() {
        Probe.sentence("Terms, the draft: a text of at most 600 characters");
        for (int last = 1; last <= 8; last++) {
            Probe probe = Probe.used();
            String text = "a: " + "x".repeat(597 - last) + "12345678".substring(0, last);
            probe.type(text.substring(0, 600 - last));
            Probe.same("the last " + last, probe.put(text.substring(600 - last)), "true");
            Map<String, String> before = probe.state();
            Probe.same("size", before.get("draft"), "600");
            for (int n = 0; n <= 9; n++) {
                Probe.same(n + " more", probe.put(n, 0x6161616161616161L), "false");
            }
            probe.shows("put to a full draft", before);
            probe.retraces("", "0", text + "\n");
        }
        Probe.isMapping("a -> b:\n#" + "x".repeat(580) + "\n    m -> n", "1");
        Probe.isNoMapping("a -> b:\n#" + "x".repeat(580) + "\n    m -> 1", 3);
    }

    private static void putDoesNotOverfill() {
        Probe.sentence("Promise 2: false when there would be more than 600");
        for (int free = 0; free < 8; free++) {
            Probe probe = Probe.used().type("a: " + "x".repeat(597 - free));
            Map<String, String> before = probe.state();
            for (int n = 8; n > free; n--) {
                Probe.same(n + " where " + free + " fit", probe.put(n, 0x7979797979797979L), "false");
            }
            probe.shows("put where it does not fit", before);
            if (free > 0) {
                Probe.same(free + " fit", probe.put(free, 0x7a7a7a7a7a7a7aL), "true");
            }
            probe.retraces("", "0", "a: " + "x".repeat(597 - free) + "z".repeat(free) + "\n");
            Probe.same("put to the empty draft", probe.put("12345678"), "true");
        }
    }

    private static void linesAreNumberedFromOne() {
        Probe.sentence("Terms, the draft: newlines separate its lines, numbered from 1 on");
        for (int line = 1; line <= 40; line += 13) {
            Probe.isNoMapping("\n".repeat(line - 1) + "-", line);
            Probe.isNoMapping("\n".repeat(line - 1) + "-\n\n-", line);
        }
        Probe.isNoMapping("\n".repeat(599) + "-", 600);
        Probe.isNoTrace("-", 1);
        Probe.isNoTrace("a\n-\n-", 2);
        Probe.isNoTrace("a\n\tat b.c(D)\n-", 3);
    }

    private static void scrapEmpties() {
        Probe.sentence("Promise 3: the draft becomes empty");
        for (int size : new int[] {0, 1, 599, 600}) {
            Probe probe = Probe.used();
            probe.load("wrong");
            Map<String, String> before = probe.state();
            probe.type("-".repeat(size));
            probe.shows("put", before, "draft", Integer.toString(size));
            probe.scrap();
            probe.shows("scrap()", before);
            probe.scrap();
            probe.shows("scrap() again", before);
            probe.retraces("a", "0", "a\n");
        }
        for (String name : READERS) {
            Probe probe = Probe.used().type("a");
            probe.scrap();
            Map<String, String> before = probe.state();
            Probe.same(name + "() behind scrap()", probe.read(name, ""), Probe.ILLEGAL_ARGUMENT);
            probe.shows(name + "() behind scrap()", before, "wrong", "1");
        }
    }

    private static void lastCallsOfAnObject() {
        Probe.sentence("What it is: an object is used for at most 512 calls");
        RetraceDesk desk = new RetraceDesk();
        Probe.same("call 1", desk.load(), 0);
        for (int i = 0; i < 255; i++) {
            Probe.same("call " + (2 * i + 2), desk.put(1, 'a'), true);
            Probe.same("call " + (2 * i + 3), desk.report(), 0);
        }
        Probe.same("call 512", desk.reports(0, 0), 255);
    }
}
