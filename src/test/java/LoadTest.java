/** Promises 4, 8 and 12: load, wrong and groups. */
public final class LoadTest {
    private static final String NAME_OF_40 = "a".repeat(19) + "." + "b".repeat(20);

    public static void main(String[] args) {
        classLines();
        methodLines();
        numbers();
        limits();
        groupsOfLines();
        oneMappingAfterAnother();
        wrongStays();
        Probe.finish("LoadTest");
    }

    private static void wrongAt(String mapping, int line) {
        Probe.loads(mapping, Probe.ILLEGAL_ARGUMENT, line);
    }

    private static void right(String mapping, int groups) {
        Probe.loads(mapping, Integer.toString(groups), 0);
    }

    private static void classLines() {
        right("", 0);
        right("\n\n# a\n#\n", 0);
        right("a -> b:", 0);
        right("a -> b:\nb -> a:\nc -> c:\n", 0);
        right("_a$1.B2 -> $:\n", 0);
        right("azAZ_$09 -> _09azAZ$:\n", 0);
        right(NAME_OF_40 + " -> " + "s".repeat(40) + ":", 0);
        wrongAt(NAME_OF_40 + "c -> b:", 1);
        wrongAt("a -> " + NAME_OF_40 + "c:", 1);
        wrongAt("a".repeat(41) + " -> b:", 1);
        wrongAt("a -> b", 1);
        wrongAt("a -> b: ", 1);
        wrongAt(" a -> b:", 1);
        wrongAt(" # a", 1);
        wrongAt("a  -> b:", 1);
        wrongAt("a->b:", 1);
        wrongAt("a -> b::", 1);
        wrongAt(".a -> b:", 1);
        wrongAt("a..c -> b:", 1);
        wrongAt("a. -> b:", 1);
        wrongAt("a.1 -> b:", 1);
        wrongAt("a-c -> b:", 1);
        wrongAt(" -> b:", 1);
        wrongAt("a -> :", 1);
        wrongAt("a\n", 1);
        wrongAt("a -> b:\n\n#\na -> c:", 4);
        wrongAt("a -> b:\nc -> d:\ne -> b:", 3);
    }

    private static void methodLines() {
        right("a -> b:\n    m -> n", 1);
        right("a -> b:\n    c.d.m -> n", 1);
        right("a -> b:\n    1:2:m -> n", 1);
        right("a -> b:\n    1:2:c.m:5 -> n", 1);
        right("a -> b:\n    1:2:m:5:5 -> n", 1);
        right("a -> b:\n    1:2:m:5:6 -> n", 1);
        right("a -> b:\n    7:7:m:5:5 -> n", 1);
        right("a -> b:\n    " + "m".repeat(40) + " -> " + "n".repeat(40), 1);
        right("a -> b:\n    " + NAME_OF_40 + " -> n", 1);
        wrongAt("    m -> n", 1);
        wrongAt("\n#\n    m -> n\na -> b:", 3);
        wrongAt("a -> b:\n   m -> n", 2);
        wrongAt("a -> b:\n     m -> n", 2);
        wrongAt("a -> b:\n\tm -> n", 2);
        wrongAt("a -> b:\n    ", 2);
        wrongAt("a -> b:\n    m", 2);
        wrongAt("a -> b:\n    m -> n:", 2);
        wrongAt("a -> b:\n    m -> n.o", 2);
        wrongAt("a -> b:\n    m -> ", 2);
        wrongAt("a -> b:\n    m -> 1", 2);
        wrongAt("a -> b:\n    m -> n ", 2);
        wrongAt("a -> b:\n    m:1 -> n", 2);
        wrongAt("a -> b:\n    m:1:1 -> n", 2);
        wrongAt("a -> b:\n    1:m -> n", 2);
        wrongAt("a -> b:\n    :1:m -> n", 2);
        wrongAt("a -> b:\n    1:2m -> n", 2);
        wrongAt("a -> b:\n    1:2: -> n", 2);
        wrongAt("a -> b:\n    1:2:.m -> n", 2);
        wrongAt("a -> b:\n    1:2:c.m. -> n", 2);
        wrongAt("a -> b:\n    1:2:m: -> n", 2);
        wrongAt("a -> b:\n    1:2:m:5: -> n", 2);
        wrongAt("a -> b:\n    1:2:m:5:6:7 -> n", 2);
        wrongAt("a -> b:\n    1:2:m:5:7 -> n", 2);
        wrongAt("a -> b:\n    1:2:m:6:5 -> n", 2);
        wrongAt("a -> b:\n    2:1:m -> n", 2);
        wrongAt("a -> b:\n    " + "m".repeat(41) + " -> n", 2);
        wrongAt("a -> b:\n    m -> " + "n".repeat(41), 2);
        wrongAt("a -> b:\n    " + NAME_OF_40 + "c -> n", 2);
    }

    private static void numbers() {
        right("a -> b:\n    0:0:m -> n", 1);
        right("a -> b:\n    0:9999:m:0 -> n", 1);
        right("a -> b:\n    0:9999:m:0:9999 -> n", 1);
        wrongAt("a -> b:\n    00:1:m -> n", 2);
        wrongAt("a -> b:\n    1:02:m -> n", 2);
        wrongAt("a -> b:\n    1:2:m:03 -> n", 2);
        wrongAt("a -> b:\n    1:2:m:3:04 -> n", 2);
        wrongAt("a -> b:\n    1:10000:m -> n", 2);
        wrongAt("a -> b:\n    1:2:m:10000 -> n", 2);
        wrongAt("a -> b:\n    -1:2:m -> n", 2);
    }

    private static void limits() {
        StringBuilder classes = new StringBuilder();
        for (int i = 0; i < 8; i++) {
            classes.append((char) ('a' + i)).append(" -> ").append((char) ('A' + i)).append(":\n");
        }
        right(classes.toString(), 0);
        wrongAt(classes + "x -> y:", 9);
        String methods = "    m -> n\n".repeat(32);
        right("a -> b:\n" + methods, 32);
        wrongAt("a -> b:\n" + methods + "    m -> n\n", 34);
        String halves = "    m -> n\n".repeat(16);
        wrongAt("a -> b:\n" + halves + "c -> d:\n" + halves + "#\n    m -> n", 36);
        Probe probe = new Probe();
        String full = "a -> b:\n#" + "x".repeat(580) + "\n    m -> n";
        for (int i = 0; i < 3; i++) {
            Probe.same("load() of 600 characters", probe.load(full), "1");
            probe.retraces("a\n\tat b.n(S)", "1", "a\n\tat a.m(a.java)\n");
        }
    }

    private static void groupsOfLines() {
        right("a -> b:\n    1:2:m -> n\n    1:2:o:7 -> n\n    1:2:c.d:7:8 -> n", 1);
        right("a -> b:\n    1:2:m -> n\n\n# x\n    1:2:o:7 -> n", 1);
        right("a -> b:\n    1:2:m -> n\n    1:3:o -> n", 2);
        right("a -> b:\n    1:2:m -> n\n    0:2:o -> n", 2);
        right("a -> b:\n    1:2:m -> n\n    1:2:m -> o", 2);
        right("a -> b:\n    1:2:m -> n\n    1:2:m -> nn", 2);
        right("a -> b:\n    m -> n\n    m -> n", 2);
        right("a -> b:\n    1:2:m -> n\n    m -> n\n    1:2:m -> n", 3);
        right("a -> b:\n    1:2:m -> n\nc -> d:\n    1:2:m -> n", 2);
        Probe probe = new Probe();
        probe.load("a -> b:\n    1:2:m -> n\n    1:2:o -> n\n    p -> q\nc -> d:\ne -> f:\n    m -> n");
        Probe.same("groups(0)", probe.desk.groups(0), 2);
        Probe.same("groups(1)", probe.desk.groups(1), 0);
        Probe.same("groups(2)", probe.desk.groups(2), 1);
        for (int line : new int[] {3, 8, -1, Integer.MIN_VALUE, Integer.MAX_VALUE}) {
            Probe.same("groups(" + line + ")", Probe.answer(() -> probe.desk.groups(line)),
                    Probe.NO_SUCH_ELEMENT);
        }
    }

    private static void oneMappingAfterAnother() {
        Probe probe = new Probe();
        probe.load("a.A -> x:\n    m -> n\n    o -> n");
        probe.report("x: 1\n\tat x.n(S)");
        String print = probe.print();
        Probe.same("a wrong mapping", probe.load("b -> y:\n    p -> q\nz"), Probe.ILLEGAL_ARGUMENT);
        Probe.same("groups(0) of the one before", probe.desk.groups(0), 2);
        Probe.same("the draft behind it", Probe.answer(probe.desk::retrace), Probe.ILLEGAL_ARGUMENT);
        probe.retraces("x", "0", "a.A\n");
        probe.report("x: 1\n\tat x.n(S)");
        Probe.same("the second mapping", probe.load("b.B -> x:"), "0");
        Probe.same("print behind load()", probe.print(), print);
        Probe.same("doubtful() behind load()", probe.desk.doubtful(), 1);
        Probe.same("crashes() behind load()", probe.desk.crashes(), 1);
        Probe.same("groups(0) of the second", probe.desk.groups(0), 0);
        probe.retraces("x\n\tat x.n(S)", "1", "b.B\n\tat b.B.n(B.java)\n");
        Probe.same("an empty mapping", probe.load(""), "0");
        Probe.same("groups(0) of none", Probe.answer(() -> probe.desk.groups(0)),
                Probe.NO_SUCH_ELEMENT);
        probe.retraces("x", "0", "x\n");
        nothingIsLeftOfOlderOnes();
    }

    private static void nothingIsLeftOfOlderOnes() {
        Probe probe = new Probe();
        probe.load("A -> x:\n    m -> n\n    1:1:A.o:5 -> p\n    A.q -> r\nB -> y:\n    m -> n");
        probe.load("");
        probe.load("A -> x:\n");
        probe.retraces("y\n\tat x.n(S)\n\tat x.p(S:1)\n\tat y.n(S)", "3",
                "y\n\tat A.n(A.java)\n\tat A.p(A.java:1)\n\tat y.n(S)\n");
        probe.shortens("B\n\tat A.m(S)\n\tat A.o(S:5)\n\tat A.q(S)\n\tat B.m(S)", "4",
                "B\n\tat x.m(SourceFile)\n\tat x.o(SourceFile:5)\n\tat x.q(SourceFile)\n"
                + "\tat B.m(S)\n");
        probe.load("A -> x:\n    m -> n\n");
        probe.shortens("B\n\tat A.m(S)\n\tat A.o(S:5)\n\tat A.q(S)", "3",
                "B\n\tat x.n(SourceFile)\n\tat x.o(SourceFile:5)\n\tat x.q(SourceFile)\n");
    }

    private static void wrongStays() {
        Probe probe = new Probe();
        Probe.same("no trace, and no mapping", probe.retrace("a\nb"), Probe.ILLEGAL_ARGUMENT);
        Probe.same("wrong()", probe.desk.wrong(), 2);
        Probe.same("no mapping", probe.retrace("a"), Probe.ILLEGAL_STATE);
        Probe.same("wrong() behind IllegalStateException", probe.desk.wrong(), 2);
        probe.load("a -> b:");
        probe.retrace("a");
        probe.desk.scrap();
        Probe.same("wrong() behind calls that did not throw", probe.desk.wrong(), 2);
        probe.load("a -> b:\n\n\nx");
        Probe.same("wrong() behind load()", probe.desk.wrong(), 4);
        probe.shorten("");
        Probe.same("wrong() of a trace without lines", probe.desk.wrong(), 1);
        probe.report("a\n\tat a.b(C)\n\n");
        Probe.same("wrong() behind report()", probe.desk.wrong(), 3);
    }
}
