import java.util.ArrayList;
import java.util.List;

/** What the terms say of parts, names, classes, calls, numbers and files, wherever they stand. */
public final class NamesTest {
    private static final String LETTERS = "abcdefghijklmnopqrstuvwxyzABCDEFGHIJKLMNOPQRSTUVWXYZ_$";
    private static final String FIGURES = "0123456789";

    /** A text with a gap in one of its lines. */
    private record Gap(String before, String after, int line, boolean isMapping, int amount) {
        /** The amount is how many groups or frames the text has. */
        void takes(String word) {
            String text = before + word + after;
            if (isMapping) {
                Probe.isMapping(text, Integer.toString(amount));
            } else {
                Probe.isTrace(text, amount);
            }
        }

        void refuses(String word) {
            String text = before + word + after;
            if (isMapping) {
                Probe.isNoMapping(text, line);
            } else {
                Probe.isNoTrace(text, line);
            }
        }
    }

    private static Gap inMapping(String before, String after, int line, int groups) {
        return new Gap(before, after, line, true, groups);
    }

    private static Gap inTrace(String before, String after, int line, int frames) {
        return new Gap(before, after, line, false, frames);
    }

    private static final List<Gap> CLASSES = List.of(
            inMapping("", " -> s:", 1, 0),
            inMapping("r -> ", ":", 1, 0),
            inMapping("\nr -> ", ":\n    m -> n", 2, 1),
            inTrace("", "", 1, 0),
            inTrace("", ": a message\n", 1, 0),
            inTrace("", ": \n\tat b.c(D)", 1, 1),
            inTrace("a\nCaused by: ", "", 2, 0),
            inTrace("a\n\t... 1 more\nCaused by: ", ": 1", 3, 0));

    private static final List<Gap> CALLS = List.of(
            inTrace("a\n\tat ", "(S)", 2, 1),
            inTrace("a\n\tat b.c(D)\n\tat ", "(S.t:1)\n", 3, 2),
            inTrace("a\nCaused by: a\n\tat ", "(Unknown Source)", 3, 1));

    /** A method of the class line, or a call. */
    private static final List<Gap> METHODS = List.of(
            inMapping("r -> s:\n    ", " -> n", 2, 1),
            inMapping("r -> s:\n    1:2:", " -> n", 2, 1),
            inMapping("r -> s:\n    1:2:", ":3 -> n", 2, 1),
            inMapping("r -> s:\n    1:2:", ":3:4 -> n", 2, 1));

    private static final List<Gap> BRIEF_METHODS = List.of(
            inMapping("r -> s:\n    m -> ", "", 2, 1),
            inMapping("r -> s:\n    1:2:m:3:4 -> ", "\n", 2, 1));

    private static final List<Gap> FILES = List.of(
            inTrace("a\n\tat b.c(", ")", 2, 1),
            inTrace("a\n\tat b.c(", ":0)\n", 2, 1));

    private static final List<Gap> FILE_ENDS = List.of(
            inTrace("a\n\tat b.c(D.", ")", 2, 1),
            inTrace("a\n\tat b.c(D.", ":9999)", 2, 1));

    public static void main(String[] args) {
        firstOfPart();
        restOfPart();
        sizeOfPart();
        pointsOfName();
        sizeOfName();
        partsOfCall();
        sizeOfCall();
        methodOfLine();
        briefMethodIsOnePart();
        fileHasOneOrTwoParts();
        sizeOfFile();
        numbersInMapping();
        numbersInTrace();
        numbersKeepTheirValue();
        Probe.finish("NamesTest");
    }

    @SafeVarargs
    private static List<Gap> allOf(List<Gap>... lists) {
        List<Gap> all = new ArrayList<>();
        for (List<Gap> list : lists) {
            all.addAll(list);
        }
        return all;
    }

    private static void firstOfPart() {
        Probe.sentence("Terms, a part: a letter a .. z, A .. Z, _ or $");
        for (Gap gap : allOf(CLASSES, METHODS, BRIEF_METHODS, FILES, FILE_ENDS)) {
            for (char code = 32; code < 127; code++) {
                // a first line of a mapping that begins with # is left out
                boolean isComment = code == '#' && gap.isMapping() && gap.before().isEmpty();
                if (LETTERS.indexOf(code) >= 0) {
                    gap.takes(code + "xy");
                    gap.takes("" + code);
                } else if (!isComment) {
                    gap.refuses(code + "xy");
                    gap.refuses("" + code);
                }
            }
        }
        for (Gap gap : CALLS) {
            for (char code = 32; code < 127; code++) {
                if (LETTERS.indexOf(code) >= 0) {
                    gap.takes(code + "." + code);
                } else {
                    gap.refuses(code + ".x");
                    gap.refuses("x." + code);
                }
            }
        }
    }

    private static void restOfPart() {
        Probe.sentence("Terms, a part: and any number of letters and figures behind it");
        String fine = LETTERS + FIGURES;
        for (Gap gap : allOf(CLASSES, METHODS, BRIEF_METHODS, FILES, FILE_ENDS)) {
            for (char code = 32; code < 127; code++) {
                if (fine.indexOf(code) >= 0) {
                    gap.takes("x" + code);
                    gap.takes("x" + code + "y");
                } else if (code != '.') {
                    gap.refuses("x" + code);
                    gap.refuses("x" + code + "y");
                }
            }
        }
        for (Gap gap : CALLS) {
            for (char code = 32; code < 127; code++) {
                if (fine.indexOf(code) >= 0) {
                    gap.takes("x" + code + ".y" + code);
                } else if (code != '.') {
                    gap.refuses("x" + code + ".y");
                    gap.refuses("x.y" + code);
                }
            }
        }
    }

    private static void sizeOfPart() {
        Probe.sentence("Terms, a part: at most 40 characters in all");
        for (Gap gap : allOf(CLASSES, METHODS, BRIEF_METHODS, FILES, FILE_ENDS)) {
            gap.takes("p".repeat(39));
            gap.takes("p".repeat(40));
            gap.takes("p" + "9".repeat(39));
            gap.refuses("p".repeat(41));
            gap.refuses("p" + "9".repeat(40));
            gap.refuses("p".repeat(42));
            gap.refuses("p".repeat(300));
        }
    }

    private static void pointsOfName() {
        Probe.sentence("Terms, a name: one or more parts with a point between two");
        for (Gap gap : allOf(CLASSES, METHODS)) {
            gap.takes("a");
            gap.takes("a.b");
            gap.takes("a.b.$c._.d0");
        }
        for (Gap gap : allOf(CLASSES, CALLS, METHODS, BRIEF_METHODS, FILES, FILE_ENDS)) {
            for (String word : new String[] {"", ".", "..", ".a", "a.", "a..b", ".a.b", "a.b.", "a.1",
                "a.1b", "1.a", "a. b", "a .b", "a.b ", " a.b"}) {
                gap.refuses(word);
            }
        }
    }

    private static void sizeOfName() {
        Probe.sentence("Terms, a name: at most 40 characters");
        for (Gap gap : allOf(CLASSES, CALLS, METHODS)) {
            gap.takes("a".repeat(19) + "." + "b".repeat(19));
            gap.takes("a".repeat(19) + "." + "b".repeat(20));
            gap.takes("aa" + ".b".repeat(19));
            gap.takes("a." + "b".repeat(38));
            gap.takes("a".repeat(38) + ".b");
            gap.refuses("a".repeat(20) + "." + "b".repeat(20));
            gap.refuses("a" + ".b".repeat(20));
            gap.refuses("a." + "b".repeat(39));
            gap.refuses("a".repeat(39) + ".b");
            gap.refuses("a".repeat(40) + ".b");
            gap.refuses("a." + "b".repeat(40));
            gap.refuses("a" + ".b".repeat(100));
        }
    }

    private static void partsOfCall() {
        Probe.sentence("Terms, a call: a name of two parts or more");
        for (Gap gap : CALLS) {
            gap.takes("a.b");
            gap.takes("a.b.c");
            gap.takes("a" + ".b".repeat(19));
            gap.refuses("a");
            gap.refuses("a".repeat(40));
        }
    }

    private static void sizeOfCall() {
        Probe.sentence("Terms, a call: the last one is its method, what is before the last point"
                + " its class");
        String type = "a".repeat(18) + "." + "b".repeat(19);
        Probe probe = Probe.loaded(type + " -> x:\n    m -> n\n    " + type + ".o -> p");
        probe.retraces("a\n\tat x.n(S)\n\tat x.p(S)\n\tat x.x.n(S)\n\tat y.x.n(S)", "4",
                "a\n\tat " + type + ".m(" + "b".repeat(19) + ".java)\n\tat " + type + ".o("
                + "b".repeat(19) + ".java)\n\tat x.x.n(S)\n\tat y.x.n(S)\n");
        probe.shortens("a\n\tat " + type + ".o(S)\n\tat " + type + ".m(S)", "2",
                "a\n\tat x.p(SourceFile)\n\tat x.n(SourceFile)\n");
    }

    private static void methodOfLine() {
        Probe.sentence("Terms, a method line: a part (a method of the real class of the latest class"
                + " line) or a call");
        // class and method have 40 characters each here: together they are no name
        Probe probe = Probe.loaded("R".repeat(40) + " -> x:\n    " + "m".repeat(40) + " -> n\n"
                + "b.B -> y:\n    o -> n\n    c.C.p -> q");
        probe.retraces("a\n\tat x.n(S)\n\tat y.n(S)\n\tat y.q(S)", "3",
                "a\n\tat " + "R".repeat(40) + "." + "m".repeat(40) + "(" + "R".repeat(40)
                + ".java)\n\tat b.B.o(B.java)\n\tat c.C.p(C.java)\n");
    }

    private static void briefMethodIsOnePart() {
        Probe.sentence("Terms, a method line: ' -> ' and a part, short");
        for (Gap gap : BRIEF_METHODS) {
            gap.takes("n");
            gap.refuses("n.o");
            gap.refuses("n:");
            gap.refuses("n ");
        }
    }

    private static void fileHasOneOrTwoParts() {
        Probe.sentence("Terms, a file: a part, or two parts with a point between");
        for (Gap gap : FILES) {
            gap.takes("D");
            gap.takes("D.e");
            gap.refuses("D.e.f");
            gap.refuses("D.e.");
            gap.refuses("D.e.f.g");
        }
        for (Gap gap : FILE_ENDS) {
            gap.refuses("e.f");
        }
    }

    private static void sizeOfFile() {
        Probe.sentence("Terms, a file: each of its parts has at most 40 characters");
        for (Gap gap : FILES) {
            gap.takes("D".repeat(40) + ".e");
            gap.takes("D." + "e".repeat(40));
            gap.takes("D".repeat(40) + "." + "e".repeat(40));
            gap.refuses("D".repeat(41) + ".e");
            gap.refuses("D." + "e".repeat(41));
            gap.refuses("D".repeat(41) + "." + "e".repeat(40));
            gap.refuses("D".repeat(40) + "." + "e".repeat(41));
        }
    }

    private static final String[] NUMBERS = {"0", "1", "9", "10", "99", "100", "999", "1000", "9999"};
    private static final String[] NO_NUMBERS = {"", "00", "01", "09", "010", "0000", "0001", "00000",
        "01000", "10000", "99999", "10000000000", "4294967297", "-1", "-0", "+1", "1a", "a1", "1 ",
        " 1", "1.0", "1_", "$", "/", ";"};

    private static void numbersInMapping() {
        Probe.sentence("Terms, a number: 0, or one to four figures, the first of which is not 0"
                + " (a, b, c and d)");
        Gap a = inMapping("r -> s:\n    ", ":9999:m -> n", 2, 1);
        Gap b = inMapping("r -> s:\n    0:", ":m -> n", 2, 1);
        Gap c = inMapping("r -> s:\n    7:7:m:", " -> n", 2, 1);
        for (Gap gap : new Gap[] {a, b, c}) {
            for (String number : NUMBERS) {
                gap.takes(number);
            }
            for (String word : NO_NUMBERS) {
                gap.refuses(word);
            }
        }
        for (String number : NUMBERS) {
            inMapping("r -> s:\n    7:7:m:" + number + ":", " -> n", 2, 1).takes(number);
            inMapping("r -> s:\n    0:" + number + ":m:0:", " -> n", 2, 1).takes(number);
            for (String word : NO_NUMBERS) {
                inMapping("r -> s:\n    7:7:m:" + number + ":", " -> n", 2, 1).refuses(word);
                inMapping("r -> s:\n    0:" + number + ":m:0:", " -> n", 2, 1).refuses(word);
            }
        }
    }

    private static void numbersInTrace() {
        Probe.sentence("Terms, a number: 0, or one to four figures, the first of which is not 0"
                + " (of a line and of a more line)");
        Gap line = inTrace("a\n\tat b.c(D:", ")", 2, 1);
        Gap otherLine = inTrace("a\n\tat b.c(D.e:", ")\n", 2, 1);
        Gap more = inTrace("a\n\t... ", " more", 2, 0);
        for (Gap gap : new Gap[] {line, otherLine, more}) {
            for (String number : NUMBERS) {
                gap.takes(number);
            }
            for (String word : NO_NUMBERS) {
                gap.refuses(word);
            }
        }
    }

    private static void numbersKeepTheirValue() {
        Probe.sentence("Terms, a number: its value");
        for (String number : NUMBERS) {
            Probe probe = Probe.loaded("A -> x:\n    " + number + ":" + number + ":m:5 -> n\n"
                    + "    5:5:o:" + number + " -> p\n");
            probe.retraces("a\n\tat x.n(S:" + number + ")\n\tat x.p(S:5)", "2",
                    "a\n\tat A.m(A.java:5)\n\tat A.o(A.java:" + number + ")\n");
            probe.shortens("a\n\tat A.m(S:5)\n\tat A.o(S:" + number + ")", "2",
                    "a\n\tat x.n(SourceFile:" + number + ")\n\tat x.p(SourceFile:5)\n");
        }
    }
}
