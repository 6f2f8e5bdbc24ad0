import java.util.Map;

/** Promises 9 and 10, and what the terms say of the print. */
public final class PrintTest {
    private static final String[] READERS = {"retrace", "shorten", "report"};
    private static final String LONG = "L".repeat(40);
    /** A name of one character becomes one of 40, whichever way. */
    private static final String BOTH_WAYS = LONG + " -> b:\n    k -> a\nc -> " + LONG + ":\n    a -> k\n";

    public static void main(String[] args) {
        newlineBehindEach();
        atMostOneThousand();
        overfullAnywhere();
        muchTooLong();
        shortPiecesBehindTooLongOnes();
        lengthOfTheLatest();
        lengthWithoutPrint();
        charactersOfIt();
        Probe.finish("PrintTest");
    }

    private static String of(String name, String forRetrace, String forShorten) {
        return name.equals("shorten") ? forShorten : forRetrace;
    }

    private static void newlineBehindEach() {
        Probe.sentence("The print: all lines, a newline behind each");
        for (String name : READERS) {
            Probe probe = Probe.loaded("");
            probe.read(name, "a");
            Probe.same("print of one line", probe.print(), "a\n");
            probe.read(name, "a: \n\tat b.c(D:1)\n\t... 1 more\nCaused by: d");
            Probe.same("print of four lines", probe.print(),
                    "a: \n\tat b.c(D:1)\n\t... 1 more\nCaused by: d\n");
        }
    }

    /** Fifteen frames that grow from 23 characters to 62 each, and what stands before and behind. */
    private static void checkSize(String name, int filler, String tail) {
        Probe probe = Probe.used();
        probe.load(BOTH_WAYS);
        Map<String, String> before = probe.state();
        String letter = of(name, "b", "c");
        String text = "y: " + "m".repeat(filler) + "\n"
                + ("\tat " + letter + ".m(Native Method)\n").repeat(15) + tail;
        String print = text.replace("\tat " + letter + ".m", "\tat " + LONG + ".m");
        String answer = probe.read(name, text);
        if (print.length() > 1000) {
            Probe.same(name + "() with a print of " + print.length(), answer, Probe.ILLEGAL_STATE);
            probe.shows(name + "() with a print of " + print.length(), before);
            return;
        }
        Probe.same(name + "() with a print of " + print.length(), answer,
                name.equals("report") ? "1" : Integer.toString(print.split("\tat ").length - 1));
        probe.shows(name + "() with a print of " + print.length(), before, "print", print,
                "doubtful", name.equals("shorten") ? "1" : "0",
                "crashes", name.equals("report") ? Probe.ANY : before.get("crashes"));
        Probe.same("length()", probe.length(), Integer.toString(print.length()));
        Probe.same("at(length - 1)", probe.at(print.length() - 1), "10");
        Probe.same("at(length)", probe.at(print.length()), Probe.OUT_OF_BOUNDS);
    }

    private static void atMostOneThousand() {
        Probe.sentence("The print: at most 1000 characters; promise 5: IllegalStateException when the"
                + " print would be too long");
        String[] tails = {"", "\t... 1 more\n", "\t... 1000 more\n", "\tat d.e(F)\n", "\tat d.e(F:77)\n",
            "\tat d.e(F.g:8888)\n", "Caused by: z\n", "Caused by: z: \n", "Caused by: z: message\n"};
        for (String name : READERS) {
            for (String tail : tails) {
                int exact = 1000 - 15 * 62 - 4 - tail.length();
                for (int filler = exact - 2; filler <= exact + 3; filler++) {
                    checkSize(name, filler, tail);
                }
            }
        }
    }

    private static void overfullAnywhere() {
        Probe.sentence("The print: too long, wherever the 1001st character stands");
        String tail = "\tat d.e(F:77)\n\t... 12 more\nCaused by: z: m\n";
        for (String name : READERS) {
            for (int filler = 0; filler < 200; filler++) {
                checkSize(name, filler, tail);
            }
        }
    }

    private static void muchTooLong() {
        Probe.sentence("The print: much too long");
        Probe probe = Probe.loaded("A -> w:\n" + "    1:1:m -> n\n".repeat(32));
        probe.retrace("y");
        Map<String, String> before = probe.state();
        for (String name : new String[] {"retrace", "report"}) {
            Probe.same(name + "() of 640 frames",
                    probe.read(name, "y\n" + "\tat w.n(S:1)\n".repeat(20)), Probe.ILLEGAL_STATE);
            probe.shows(name + "() of 640 frames", before);
        }
        // 54 frames of 18 characters, and a header of 28 or 29
        probe = Probe.loaded("A -> w:\n" + "    1:1:m -> n\n".repeat(27));
        Probe.same("a print of 1001", probe.retrace("y: " + "m".repeat(25) + "\n"
                + "\tat w.n(S:1)\n".repeat(2)), Probe.ILLEGAL_STATE);
        Probe.same("a print of 1000", probe.retrace("y: " + "m".repeat(24) + "\n"
                + "\tat w.n(S:1)\n".repeat(2)), "54");
        Probe.same("length()", probe.length(), "1000");
    }

    private static void shortPiecesBehindTooLongOnes() {
        Probe.sentence("The print: what would fit behind a piece that did not fit is no print");
        Probe probe = Probe.loaded(LONG + " -> b:\n");
        Map<String, String> before = probe.state();
        String frames = "\tat b.m(Native Method)\n".repeat(15);
        // 934 characters and 50 more, then a class of 40 that does not fit, then less than it
        Probe.same("retrace()", probe.retrace("y: " + "m".repeat(50) + "\n" + frames
                + "Caused by: b"), Probe.ILLEGAL_STATE);
        probe.shows("retrace()", before);
        Probe.same("retrace() of the same but for the cause", probe.retrace("y: " + "m".repeat(50)
                + "\n" + frames + "Caused by: q"), "15");
    }

    private static void lengthOfTheLatest() {
        Probe.sentence("Promise 9: how many characters the latest print has (of a call that did not"
                + " throw)");
        for (String name : READERS) {
            Probe probe = Probe.loaded("");
            probe.read(name, "a: longer");
            Probe.same("length()", probe.length(), "10");
            probe.read(name, "b");
            Probe.same("length() of a shorter one", probe.length(), "2");
            Probe.same("a wrong trace", probe.read(name, "abc\nd"), Probe.ILLEGAL_ARGUMENT);
            Probe.same("length() behind it", probe.length(), "2");
            probe.load("b -> c:");
            Probe.same("length() behind load()", probe.length(), "2");
            probe.type("abc");
            Probe.same("length() behind put()", probe.length(), "2");
            probe.scrap();
            Probe.same("length() behind scrap()", probe.length(), "2");
            Probe.same("at(0)", probe.at(0), "98");
        }
    }

    private static void lengthWithoutPrint() {
        Probe.sentence("Promise 9: 0 when there is none");
        Probe probe = new Probe();
        Probe.same("length()", probe.length(), "0");
        for (String name : READERS) {
            probe.read(name, "a");
            Probe.same("length() behind " + name + "() that threw", probe.length(), "0");
            probe.read(name, "-");
            Probe.same("length() behind " + name + "() that threw", probe.length(), "0");
        }
        probe.load("a -> b:");
        Probe.same("length() behind load()", probe.length(), "0");
        Probe.same("at(0)", probe.at(0), Probe.OUT_OF_BOUNDS);
    }

    private static void charactersOfIt() {
        Probe.sentence("Promise 10: IndexOutOfBoundsException when there is none");
        Probe probe = Probe.loaded("");
        probe.retrace("a: \t~");
        Map<String, String> before = probe.state();
        int[] codes = {97, 58, 32, 9, 126, 10};
        for (int i = 0; i < codes.length; i++) {
            Probe.same("at(" + i + ")", probe.at(i), Integer.toString(codes[i]));
        }
        for (int i : new int[] {-1, -2, 6, 7, 599, 600, 999, 1000, 1001, Integer.MIN_VALUE,
            Integer.MAX_VALUE}) {
            Probe.same("at(" + i + ")", probe.at(i), Probe.OUT_OF_BOUNDS);
        }
        probe.shows("at()", before);
        probe.retrace("a: a longer one");
        Probe.same("at(6)", probe.at(6), "111");
        probe.retrace("b");
        Probe.same("at(1)", probe.at(1), "10");
        Probe.same("at(2) of a shorter print", probe.at(2), Probe.OUT_OF_BOUNDS);
    }
}
