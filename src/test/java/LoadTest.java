import java.util.Map;

/** Promise 4, and what the terms say of a mapping and its two kinds of lines. */
public final class LoadTest {
    private static final String EIGHT = "a -> A:\nb -> B:\nc -> C:\nd -> D:\ne -> E:\nf -> F:\n"
            + "g -> G:\nh -> H:\n";

    public static void main(String[] args) {
        emptyDraft();
        leftOutLines();
        leftOutLinesAreCounted();
        classLineForm();
        atMostEightClassLines();
        differentReals();
        differentShorts();
        methodLineBehindClassLine();
        fourSpaces();
        methodLineForm();
        firstIsAtMostLast();
        realLinesOnlyWithRange();
        atMostThirtyTwoMethodLines();
        missingRealLines();
        realSpan();
        firstWrongLine();
        takesThePlace();
        refusedMappingStays();
        nothingIsLeftOfOlderOnes();
        Probe.finish("LoadTest");
    }

    private static void emptyDraft() {
        Probe.sentence("Promise 4: an empty one has no groups");
        Probe probe = new Probe();
        Map<String, String> before = probe.state();
        Probe.same("load() of an empty draft", probe.load(""), "0");
        probe.shows("load() of an empty draft", before, "renames", Probe.ANY);
        Probe.same("groups(0)", probe.groups(0), Probe.NO_SUCH_ELEMENT);
        probe.retraces("a\n\tat b.c(D:1)", "1", "a\n\tat b.c(D:1)\n");
        probe = Probe.used();
        before = probe.state();
        Probe.same("load() of an empty draft", probe.load(""), "0");
        probe.shows("load() of an empty draft", before, "groups", "", "renames", Probe.ANY);
        probe.retraces("o\n\tat o.n(S)", "1", "o\n\tat o.n(S)\n");
    }

    private static void leftOutLines() {
        Probe.sentence("Terms, a mapping: empty lines, and those that begin with #, are left out");
        Probe.isMapping("\n", "");
        Probe.isMapping("\n\n\n", "");
        Probe.isMapping("#", "");
        Probe.isMapping("##\t~ -> :\n#", "");
        Probe.isMapping("#a -> b:\n# a -> b:", "");
        Probe.isMapping("\n#\na -> b:\n\n#\n    m -> n\n#\n\n", "1");
        Probe.isMapping("a -> b:\n#    m -> n", "0");
        Probe.isNoMapping(" ", 1);
        Probe.isNoMapping(" #", 1);
        Probe.isNoMapping("\t", 1);
        Probe.isNoMapping("\t#", 1);
        Probe.isNoMapping("a -> b:\n    ", 2);
        Probe.isNoMapping("a -> b:\n    #", 2);
        Probe.isNoMapping("a -> b: # why", 1);
        Probe.isNoMapping("a -> b:\n    m -> n #", 2);
        Probe.isNoMapping("a -> b:#", 1);
    }

    private static void leftOutLinesAreCounted() {
        Probe.sentence("Terms, lines left out have their numbers");
        Probe.isNoMapping("\n#\n\na", 4);
        Probe.isNoMapping("#\n\na -> b:\n#\n\n    m", 6);
    }

    private static void classLineForm() {
        Probe.sentence("Terms, a class line: a class, ' -> ', a class and a colon");
        Probe.isMapping("a -> b:", "0");
        Probe.isMapping("a -> b:\n", "0");
        Probe.isMapping("_a$1.B2 -> $.c:", "0");
        for (String line : new String[] {"a", "a ", "a ->", "a -> ", "a -> b", "a -> b ", "a -> b: ",
            "a -> b::", "a -> b:c", "a -> :", " -> b:", "-> b:", "a->b:", "a-> b:", "a ->b:",
            "a  -> b:", "a ->  b:", " a -> b:", "  a -> b:", "   a -> b:", "a - > b:", "a => b:",
            "a -> b -> c:", "a: -> b:", "a\t-> b:", "a -> b :", "a -> b.:", ":", "a:b:c -> d:"}) {
            Probe.isNoMapping(line, 1);
            Probe.isNoMapping("x -> y:\n" + line + "\n    m -> n", 2);
        }
    }

    private static void atMostEightClassLines() {
        Probe.sentence("Terms, class lines: there are at most 8");
        Probe.isMapping(EIGHT.substring(0, EIGHT.length() - 8), "0,0,0,0,0,0,0");
        Probe.isMapping(EIGHT, "0,0,0,0,0,0,0,0");
        Probe.isMapping(EIGHT + "\n#i -> I:\n    m -> n", "0,0,0,0,0,0,0,1");
        Probe.isNoMapping(EIGHT + "i -> I:", 9);
        Probe.isNoMapping(EIGHT + "\n#\ni -> I:\n", 11);
        Probe probe = Probe.loaded(EIGHT);
        probe.retraces("A\n\tat H.m(S)\nCaused by: H", "1", "a\n\tat h.m(h.java)\nCaused by: h\n");
        probe.shortens("a\n\tat h.m(S)\nCaused by: h", "1",
                "A\n\tat H.m(SourceFile)\nCaused by: H\n");
    }

    private static void differentReals() {
        Probe.sentence("Terms, class lines: all with different real ones");
        Probe.isMapping("a -> b:\naa -> c:\na.a -> d:\nA -> e:", "0,0,0,0");
        Probe.isNoMapping("a -> b:\na -> c:", 2);
        Probe.isNoMapping("a -> b:\n    m -> n\n\nx -> y:\na -> c:", 5);
        Probe.isNoMapping("x.a -> b:\ny -> c:\nx.a -> d:", 3);
        Probe.isNoMapping("a -> b:\na -> b:", 2);
    }

    private static void differentShorts() {
        Probe.sentence("Terms, class lines: all with different short ones");
        Probe.isMapping("a -> b:\nc -> bb:\nd -> b.b:\ne -> B:", "0,0,0,0");
        Probe.isMapping("a -> b:\nb -> a:\nc -> c:", "0,0,0");
        Probe.isNoMapping("a -> b:\nc -> b:", 2);
        Probe.isNoMapping("a -> b:\nx -> y:\n    m -> n\nc -> b:", 4);
        Probe probe = Probe.loaded("a -> b:\nb -> a:\nc -> c:");
        probe.retraces("a\n\tat b.m(S)\n\tat c.m(S)", "2", "b\n\tat a.m(a.java)\n\tat c.m(c.java)\n");
        probe.shortens("a\n\tat b.m(S)\n\tat c.m(S)", "2",
                "b\n\tat a.m(SourceFile)\n\tat c.m(SourceFile)\n");
    }

    private static void methodLineBehindClassLine() {
        Probe.sentence("Terms, a method line behind a class line");
        Probe.isNoMapping("    m -> n", 1);
        Probe.isNoMapping("    1:2:c.m:3:4 -> n\na -> b:", 1);
        Probe.isNoMapping("#\n\n    m -> n\na -> b:", 3);
        Probe.isMapping("a -> b:\n    m -> n\n    o -> p\nc -> d:\n    m -> n", "2,1");
        // the class line of the mapping before is none of this one
        Probe probe = Probe.used();
        Probe.same("load()", probe.load("    m -> n"), Probe.ILLEGAL_ARGUMENT);
    }

    private static void fourSpaces() {
        Probe.sentence("Terms, a method line: four spaces");
        for (String rest : new String[] {"m -> n", "1:2:m -> n", "c.m -> n"}) {
            Probe.isMapping("a -> b:\n    " + rest, "1");
            for (String space : new String[] {"", " ", "   ", "     ", "\t", "    \t", "        "}) {
                Probe.isNoMapping("a -> b:\n" + space + rest, 2);
            }
        }
    }

    private static void methodLineForm() {
        Probe.sentence("Terms, a method line: perhaps a and b; a part or a call; perhaps c, perhaps"
                + " d; ' -> ' and a part");
        for (String rest : new String[] {"m -> n", "c.d.m -> n", "1:2:m -> n", "1:2:c.m -> n",
            "1:2:m:5 -> n", "1:2:c.m:5 -> n", "1:2:m:5:5 -> n", "1:2:c.m:5:6 -> n"}) {
            Probe.isMapping("a -> b:\n    " + rest, "1");
        }
        for (String rest : new String[] {"m", "m ", "m ->", "m -> ", "m->n", "m  -> n", "m ->  n",
            "m -> n:", "m -> n ", "m -> n -> o", " -> n", "-> n", "m() -> n", "void m -> n",
            "1:m -> n", "1: m -> n", "1:2 -> n", "1:2: -> n", "1:2:3 -> n", "1:2m -> n", ":m -> n",
            ":1:m -> n", ":1:2:m -> n", "1::m -> n", "::m -> n", "1:2::m -> n", "1 :2:m -> n",
            "1:2:3:m -> n", "1:2: m -> n", "1:2:m: -> n", "1:2:m:: -> n", "1:2:m::3 -> n",
            "1:2:m:3: -> n", "1:2:m:3:4: -> n", "1:2:m:3:4:5 -> n", "1:2:m:3 :4 -> n",
            "1:2:m:x -> n", "1:2:m:3:x -> n"}) {
            Probe.isNoMapping("a -> b:\n    " + rest, 2);
            Probe.isNoMapping("a -> b:\n    k -> l\n    " + rest + "\nc -> d:", 3);
        }
    }

    private static void firstIsAtMostLast() {
        Probe.sentence("Terms, a method line: a is at most b");
        for (String range : new String[] {"0:0", "0:1", "5:5", "5:6", "9:10", "9998:9999",
            "9999:9999", "0:9999"}) {
            Probe.isMapping("a -> b:\n    " + range + ":m -> n", "1");
            Probe.isMapping("a -> b:\n    " + range + ":m:7 -> n", "1");
        }
        for (String range : new String[] {"1:0", "6:5", "10:9", "9999:9998", "9999:0"}) {
            Probe.isNoMapping("a -> b:\n    " + range + ":m -> n", 2);
            Probe.isNoMapping("a -> b:\n    " + range + ":m:7 -> n", 2);
            Probe.isNoMapping("a -> b:\n    " + range + ":m:7:7 -> n", 2);
        }
        Probe.isNoMapping("a -> b:\n    6:5:m:7:6 -> n", 2);
    }

    private static void realLinesOnlyWithRange() {
        Probe.sentence("Terms, a method line: c and d only if a and b are there");
        Probe.isMapping("a -> b:\n    0:0:m:1 -> n", "1");
        Probe.isMapping("a -> b:\n    0:0:m:1:1 -> n", "1");
        Probe.isNoMapping("a -> b:\n    m:1 -> n", 2);
        Probe.isNoMapping("a -> b:\n    m:0 -> n", 2);
        Probe.isNoMapping("a -> b:\n    m:1:1 -> n", 2);
        Probe.isNoMapping("a -> b:\n    c.m:1 -> n", 2);
        Probe.isNoMapping("a -> b:\n    1:1:m:2 -> n\n    m:2 -> n", 3);
    }

    private static void atMostThirtyTwoMethodLines() {
        Probe.sentence("Terms, method lines: there are at most 32");
        String line = "    m -> n\n";
        Probe.isMapping("a -> b:\n" + line.repeat(31), "31");
        Probe.isMapping("a -> b:\n" + line.repeat(32), "32");
        Probe.isNoMapping("a -> b:\n" + line.repeat(33), 34);
        Probe.isNoMapping("a -> b:\n" + line.repeat(33) + "wrong", 34);
        Probe.isMapping("a -> b:\n" + line.repeat(16) + "c -> d:\n" + line.repeat(16), "16,16");
        Probe.isMapping("a -> b:\n" + line.repeat(32) + "c -> d:\n#\n", "32,0");
        Probe.isNoMapping("a -> b:\n" + line.repeat(16) + "c -> d:\n" + line.repeat(17), 35);
        Probe.isNoMapping("a -> b:\n" + line.repeat(32) + "\n#\nc -> d:\n" + line, 37);
        String inGroup = "    1:1:m -> n\n";
        Probe.isMapping("a -> b:\n" + inGroup.repeat(32), "1");
        Probe.isNoMapping("a -> b:\n" + inGroup.repeat(33), 34);
        Probe probe = Probe.loaded("A -> x:\n" + line.repeat(31) + "    o -> p");
        probe.retraces("a\n\tat x.p(S)", "1", "a\n\tat A.o(A.java)\n");
        probe.shortens("a\n\tat A.o(S)", "1", "a\n\tat x.p(SourceFile)\n");
    }

    private static void missingRealLines() {
        Probe.sentence("Terms: if c is missing, c is a and d is b; if d alone is missing, d is c");
        Probe probe = Probe.loaded("A -> x:\n    3:5:m -> n\n    6:8:m:20 -> n\n"
                + "    9:11:m:30:30 -> n\n    12:14:m:40:42 -> n\n");
        int[] lines = {3, 4, 5, 6, 7, 8, 9, 10, 11, 12, 13, 14};
        int[] due = {3, 4, 5, 20, 20, 20, 30, 30, 30, 40, 41, 42};
        for (int i = 0; i < lines.length; i++) {
            probe.retraces("a\n\tat x.n(S:" + lines[i] + ")", "1",
                    "a\n\tat A.m(A.java:" + due[i] + ")\n");
        }
    }

    private static void realSpan() {
        Probe.sentence("Terms: d - c has to be 0 or b - a");
        for (String rest : new String[] {"3:7:m:10:10", "3:7:m:10:14", "3:7:m:0:4", "3:7:m:3:7",
            "5:5:m:9:9", "5:6:m:9:9", "5:6:m:9:10", "0:9999:m:0:9999", "0:9999:m:7:7",
            "0:1:m:9998:9999"}) {
            Probe.isMapping("a -> b:\n    " + rest + " -> n", "1");
        }
        for (String rest : new String[] {"3:7:m:10:9", "3:7:m:10:6", "3:7:m:10:11", "3:7:m:10:13",
            "3:7:m:10:15", "3:7:m:14:10", "5:5:m:9:10", "5:5:m:9:8", "5:6:m:9:8", "5:6:m:9:11",
            "0:9999:m:1:9999", "0:9998:m:0:9999", "0:9999:m:9999:0"}) {
            Probe.isNoMapping("a -> b:\n    " + rest + " -> n", 2);
        }
    }

    private static void firstWrongLine() {
        Probe.sentence("Promise 8: the number of the first wrong line (of a mapping)");
        Probe.isNoMapping("x\ny", 1);
        Probe.isNoMapping("a -> b:\nx\ny", 2);
        Probe.isNoMapping("a -> b:\n    m -> n\na -> c:\n    1:0:m -> n", 3);
        Probe.isNoMapping("a -> b:\n    m -> n\n\nx", 4);
    }

    private static void takesThePlace() {
        Probe.sentence("Promise 4: takes the place of the one before (print and crashes stay); it is"
                + " empty then");
        Probe probe = Probe.used();
        probe.load("wrong");
        Map<String, String> before = probe.state();
        Probe.same("load()", probe.load("b.B -> o:\n    1:1:p -> n\nA -> x:\n    m -> n\n"), "2");
        probe.shows("load()", before, "groups", "1,1", "renames",
                "3 b.B\n\tat b.B.p(B.java)\nCaused by: A\n\tat A.m(A.java:1)\n\tat A.m(A.java)\n"
                + "3 a.Old\n\tat a.Old.k(S)\nCaused by: x\n\tat x.n(SourceFile:1)\n"
                + "\tat x.n(SourceFile)\n");
        Probe.same("load() of the draft it left", probe.load(""), "0");
        probe.shows("load() of nothing", before, "groups", "", "renames", Probe.ANY);
    }

    private static void refusedMappingStays() {
        Probe.sentence("Promise 4: IllegalArgumentException when a line is wrong: the mapping stays");
        for (String bad : new String[] {"x", "b -> o:\n    p -> n\nx", EIGHT + "i -> I:",
            "b -> o:\n" + "    m -> n\n".repeat(33), "a -> b:\na -> c:\n"}) {
            for (int times = 1; times <= 3; times++) {
                Probe probe = Probe.used();
                Map<String, String> before = probe.state();
                for (int i = 0; i < times; i++) {
                    Probe.same("load() of\n" + bad, probe.load(bad), Probe.ILLEGAL_ARGUMENT);
                }
                probe.shows("load() of\n" + bad, before, "wrong", probe.wrong());
                probe.retraces("o: 1\n\tat o.n(S:3)", "1", "a.Old: 1\n\tat a.Old.m(Old.java:3)\n");
                probe.shortens("a.Old\n\tat a.Old.k(S)", "1", "o\n\tat o.n(SourceFile)\n");
            }
        }
        Probe probe = new Probe();
        Map<String, String> before = probe.state();
        Probe.same("a first mapping that is wrong", probe.load("a -> b:\nx"), Probe.ILLEGAL_ARGUMENT);
        probe.shows("a first mapping that is wrong", before, "wrong", "2");
        Probe.same("no mapping was loaded", probe.retrace("a"), Probe.ILLEGAL_STATE);
    }

    private static void nothingIsLeftOfOlderOnes() {
        Probe.sentence("Promise 4: nothing is left of the mappings before");
        Probe probe = new Probe();
        probe.load("A -> x:\n    m -> n\n    1:1:A.o:5 -> p\n    A.q -> r\nB -> y:\n    m -> n");
        probe.load("");
        probe.load("A -> x:\n");
        probe.retraces("y\n\tat x.n(S)\n\tat x.p(S:1)\n\tat y.n(S)", "3",
                "y\n\tat A.n(A.java)\n\tat A.p(A.java:1)\n\tat y.n(S)\n");
        probe.shortens("B\n\tat A.m(S)\n\tat A.o(S:5)\n\tat A.q(S)\n\tat B.m(S)", "4",
                "B\n\tat x.m(SourceFile)\n\tat x.o(SourceFile:5)\n\tat x.q(SourceFile)\n"
                + "\tat B.m(S)\n");
        probe.load("A -> x:\n    m -> n\n");
        probe.shortens("B\n\tat A.m(S)\n\tat A.o(S:5)\n\tat A.q(S)", "3",
                "B\n\tat x.n(SourceFile)\n\tat x.o(SourceFile:5)\n\tat x.q(SourceFile)\n");
        // a longer mapping before a shorter one, in turns, each of them whole
        for (int i = 0; i < 3; i++) {
            Probe.same("the longer", probe.load("A -> x:\n    1:1:m -> n\n    1:1:o -> n\nB -> y:"), "1");
            probe.retraces("y\n\tat x.n(S:1)", "2", "B\n\tat A.m(A.java:1)\n\tat A.o(A.java:1)\n");
            Probe.same("the shorter", probe.load("A -> x:\n    1:1:m -> n"), "1");
            probe.retraces("y\n\tat x.n(S:1)", "1", "y\n\tat A.m(A.java:1)\n");
        }
    }
}
