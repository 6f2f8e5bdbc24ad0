import java.util.Map;

/** Promise 12, and what the terms say of groups. */
public final class GroupsTest {
    public static void main(String[] args) {
        oneGroup();
        sameShortMethod();
        sameRange();
        oneBehindTheOther();
        butForWhatIsLeftOut();
        ofOneClassLine();
        withoutRange();
        numbersOfClassLines();
        groupsOfTheLatestMapping();
        Probe.finish("GroupsTest");
    }

    private static void oneGroup() {
        Probe.sentence("Terms, groups: with the same short method and the same a and b, are one");
        Probe.isMapping("a -> b:\n    1:2:m -> n", "1");
        Probe.isMapping("a -> b:\n    1:2:m -> n\n    1:2:m -> n", "1");
        Probe.isMapping("a -> b:\n    1:2:m -> n\n    1:2:o:7 -> n\n    1:2:c.d:7:8 -> n", "1");
        Probe.isMapping("a -> b:\n    0:0:m -> n\n    0:0:o -> n", "1");
        Probe probe = Probe.loaded("A -> x:\n    1:2:m -> n\n    1:2:o:7 -> n\n    1:2:c.d:7:8 -> n");
        probe.retraces("a\n\tat x.n(S:2)", "3",
                "a\n\tat A.m(A.java:2)\n\tat A.o(A.java:7)\n\tat c.d(c.java:8)\n");
    }

    private static void sameShortMethod() {
        Probe.sentence("Terms, groups: the same short method");
        Probe.isMapping("a -> b:\n    1:2:m -> n\n    1:2:m -> o", "2");
        Probe.isMapping("a -> b:\n    1:2:m -> n\n    1:2:m -> nn", "2");
        Probe.isMapping("a -> b:\n    1:2:m -> nn\n    1:2:m -> n", "2");
        Probe.isMapping("a -> b:\n    1:2:m -> n\n    1:2:m -> N", "2");
        Probe probe = Probe.loaded("A -> x:\n    1:2:m -> n\n    1:2:o -> p");
        probe.retraces("a\n\tat x.n(S:1)\n\tat x.p(S:1)", "2",
                "a\n\tat A.m(A.java:1)\n\tat A.o(A.java:1)\n");
    }

    private static void sameRange() {
        Probe.sentence("Terms, groups: the same a and b");
        Probe.isMapping("a -> b:\n    1:2:m -> n\n    1:3:m -> n", "2");
        Probe.isMapping("a -> b:\n    1:2:m -> n\n    0:2:m -> n", "2");
        Probe.isMapping("a -> b:\n    1:2:m -> n\n    2:2:m -> n\n    1:1:m -> n", "3");
        Probe probe = Probe.loaded("A -> x:\n    1:2:m -> n\n    1:3:o -> n");
        probe.retraces("a\n\tat x.n(S:2)\n\tat x.n(S:3)", "2",
                "a\n\tat A.m(A.java:2)\n\tat A.o(A.java:3)\n");
    }

    private static void oneBehindTheOther() {
        Probe.sentence("Terms, groups: one behind the other");
        Probe.isMapping("a -> b:\n    1:2:m -> n\n    1:3:m -> n\n    1:2:m -> n", "3");
        Probe.isMapping("a -> b:\n    1:2:m -> n\n    1:2:m -> o\n    1:2:m -> n", "3");
        Probe.isMapping("a -> b:\n    1:2:m -> n\n    m -> n\n    1:2:m -> n", "3");
        Probe.isMapping("a -> b:\n    1:2:m -> n\n    1:2:m -> n\n    2:2:m -> n\n    2:2:m -> n\n"
                + "    1:2:m -> n\n    1:2:m -> n", "3");
        Probe probe = Probe.loaded("A -> x:\n    1:2:m -> n\n    k -> l\n    1:2:o -> n");
        probe.retraces("a\n\tat x.n(S:1)", "1", "a\n\tat A.m(A.java:1)\n");
        probe.shortens("a\n\tat A.m(S:1)\n\tat A.o(S:1)", "2",
                "a\n\tat x.n(SourceFile:1)\n\tat x.n(SourceFile:1)\n");
    }

    private static void butForWhatIsLeftOut() {
        Probe.sentence("Terms, groups: one behind the other (but for what is left out)");
        Probe.isMapping("a -> b:\n    1:2:m -> n\n\n    1:2:o -> n", "1");
        Probe.isMapping("a -> b:\n    1:2:m -> n\n#\n    1:2:o -> n", "1");
        Probe.isMapping("a -> b:\n    1:2:m -> n\n\n#    1:3:m -> n\n\n\n    1:2:o -> n\n", "1");
        Probe.isMapping("a -> b:\n#\n    1:2:m -> n\n\n    1:3:o -> n", "2");
        Probe probe = Probe.loaded("A -> x:\n    1:2:m -> n\n#\n\n    1:2:o -> n");
        probe.retraces("a\n\tat x.n(S:1)", "2", "a\n\tat A.m(A.java:1)\n\tat A.o(A.java:1)\n");
        probe.shortens("a\n\tat A.m(S:1)\n\tat A.o(S:1)", "1", "a\n\tat x.n(SourceFile:1)\n");
    }

    private static void ofOneClassLine() {
        Probe.sentence("Terms, groups: method lines of one class line; a group is of its class line");
        Probe.isMapping("a -> b:\n    1:2:m -> n\nc -> d:\n    1:2:m -> n", "1,1");
        Probe.isMapping("a -> b:\n    1:2:m -> n\nc -> d:\ne -> f:\n    1:2:m -> n\n"
                + "    1:2:a.m -> n", "1,0,1");
        Probe probe = Probe.loaded("A -> x:\n    1:2:m -> n\nB -> y:\n    1:2:o -> n\n    1:2:A.m -> n");
        probe.retraces("a\n\tat x.n(S:1)\n\tat y.n(S:1)", "3",
                "a\n\tat A.m(A.java:1)\n\tat B.o(B.java:1)\n\tat A.m(A.java:1)\n");
        probe.shortens("a\n\tat A.m(S:1)\n\tat B.o(S:1)\n\tat A.m(S:1)", "2",
                "a\n\tat x.n(SourceFile:1)\n\tat y.n(SourceFile:1)\n");
    }

    private static void withoutRange() {
        Probe.sentence("Terms, groups: a method line without a and b is a group by itself");
        Probe.isMapping("a -> b:\n    m -> n", "1");
        Probe.isMapping("a -> b:\n    m -> n\n    m -> n", "2");
        Probe.isMapping("a -> b:\n    m -> n\n    o -> n\n    c.m -> n", "3");
        Probe.isMapping("a -> b:\n    m -> n\n    0:0:m -> n\n    0:0:m -> n\n    m -> n", "3");
        Probe probe = Probe.loaded("A -> x:\n    m -> n\n    o -> n");
        probe.retraces("a\n\tat x.n(S)", "1", "a\n\tat A.m(A.java)\n");
        Probe.same("doubtful()", probe.doubtful(), "1");
        probe.shortens("a\n\tat A.m(S)\n\tat A.o(S)", "2",
                "a\n\tat x.n(SourceFile)\n\tat x.n(SourceFile)\n");
    }

    private static void numbersOfClassLines() {
        Probe.sentence("Promise 12: NoSuchElementException when there is no such line");
        int[] noLines = {-1, -2, 8, 9, 32, Integer.MIN_VALUE, Integer.MAX_VALUE};
        for (int lines = 0; lines <= 8; lines++) {
            StringBuilder text = new StringBuilder();
            for (int i = 0; i < lines; i++) {
                text.append((char) ('a' + i)).append(" -> ").append((char) ('A' + i)).append(":\n")
                        .append("    m -> n\n".repeat(i % 4));
            }
            Probe probe = Probe.loaded(text.toString());
            Map<String, String> before = probe.state();
            for (int i = 0; i < lines; i++) {
                Probe.same("groups(" + i + ")", probe.groups(i), Integer.toString(i % 4));
            }
            Probe.same("groups(" + lines + ")", probe.groups(lines), Probe.NO_SUCH_ELEMENT);
            for (int line : noLines) {
                Probe.same("groups(" + line + ")", probe.groups(line), Probe.NO_SUCH_ELEMENT);
            }
            probe.shows("groups()", before);
        }
    }

    private static void groupsOfTheLatestMapping() {
        Probe.sentence("Promise 12: how many groups a class line has in the mapping");
        String[] mappings = {"a -> b:\n    m -> n\n    m -> n\nc -> d:\n    m -> n", "a -> b:",
            "a -> b:\n    m -> n\nc -> d:\ne -> f:\n    1:1:m -> n\n    1:1:m -> n", "",
            "c -> d:\n    1:1:m -> n\n    2:2:m -> n\n    3:3:m -> n"};
        String[] due = {"2,1", "0", "1,0,1", "", "3"};
        Probe probe = new Probe();
        for (int i = 0; i < 3 * mappings.length; i++) {
            int next = (2 * i + i / mappings.length) % mappings.length;
            probe.load(mappings[next]);
            Probe.same("groups of\n" + mappings[next], probe.state().get("groups"), due[next]);
            Probe.same("a wrong mapping", probe.load(mappings[i % 3] + "\n-"), Probe.ILLEGAL_ARGUMENT);
            Probe.same("groups behind it", probe.state().get("groups"), due[next]);
        }
    }
}
