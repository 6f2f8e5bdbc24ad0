/** What the terms say of a trace, and promise 8; every text goes to retrace, shorten and report. */
public final class TraceTest {
    private static final String FRAME = "\tat b.c(D)\n";
    private static final String CAUSE = "Caused by: e\n";

    public static void main(String[] args) {
        noLines();
        headerLine();
        message();
        anyNumberOfFrames();
        atMostTwentyFrames();
        moreLine();
        moreLineComesLast();
        causes();
        atMostThreeCauses();
        lastLineThatIsEmpty();
        frameLine();
        places();
        firstWrongLine();
        Probe.finish("TraceTest");
    }

    private static void noLines() {
        Probe.sentence("Promise 8: 1 for a trace without lines");
        Probe.isNoTrace("", 1);
    }

    private static void headerLine() {
        Probe.sentence("Terms, a trace: a header is a class, or a class, a colon, a space and a message");
        Probe.isTrace("a", 0);
        Probe.isTrace("a.b$c", 0);
        Probe.isTrace("a: b", 0);
        for (String line : new String[] {" ", "a ", " a", "a b", "a:", "a:b", "a :b", "a : b", "a:\tb",
            "a.: b", ": b", "a;", "a -> b:", "\ta", "#", "\tat a.b(C)", "\t... 1 more", "Caused by: a",
            "Caused by:", "at a.b(C)"}) {
            Probe.isNoTrace(line, 1);
            Probe.isNoTrace(line + "\n", 1);
            Probe.isNoTrace(line + "\n" + FRAME, 1);
        }
    }

    private static void message() {
        Probe.sentence("Terms, a message: any characters, or none");
        Probe.isTrace("a: ", 0);
        Probe.isTrace("a: \n", 0);
        Probe.isTrace("a: \n" + FRAME, 1);
        Probe.isTrace("a\nCaused by: b: ", 0);
        Probe.isTrace("a:  ", 0);
        Probe.isTrace("a: : ", 0);
        Probe.isTrace("a: a: b", 0);
        Probe.isTrace("a: \tat b.c(D)", 0);
        Probe.isTrace("a: \t... 1 more", 0);
        Probe.isTrace("a: Caused by: b\nCaused by: c: Caused by: d", 0);
        StringBuilder all = new StringBuilder("a: \t");
        for (char code = 32; code < 127; code++) {
            all.append(code);
        }
        Probe.isTrace(all.toString(), 0);
        Probe.isTrace("a\nCaused by: " + all + "\t\t\n" + FRAME, 1);
        Probe.isTrace("a: " + "m".repeat(597), 0);
    }

    private static void anyNumberOfFrames() {
        Probe.sentence("Terms, a trace: any number of frame lines");
        for (int frames = 0; frames <= 20; frames++) {
            Probe.isTrace("a\n" + FRAME.repeat(frames), frames);
        }
    }

    private static void atMostTwentyFrames() {
        Probe.sentence("Terms, a trace: there are at most 20 frames");
        Probe.isTrace("a\n" + FRAME.repeat(20) + "\t... 1 more\n" + CAUSE + "\t... 1 more", 20);
        Probe.isTrace("a\n" + FRAME.repeat(9) + CAUSE + FRAME.repeat(10) + CAUSE + FRAME, 20);
        Probe.isTrace("a\n" + CAUSE.repeat(3) + FRAME.repeat(20), 20);
        Probe.isNoTrace("a\n" + FRAME.repeat(21), 22);
        Probe.isNoTrace("a\n" + FRAME.repeat(21) + "-", 22);
        Probe.isNoTrace("a\n" + FRAME.repeat(20) + CAUSE + FRAME, 23);
        Probe.isNoTrace("a\n" + FRAME.repeat(10) + CAUSE + FRAME.repeat(11), 23);
        Probe.isNoTrace("a\n" + FRAME.repeat(20) + "\t... 1 more\n" + CAUSE + FRAME, 24);
        Probe.isNoTrace("a\n" + CAUSE + FRAME.repeat(9) + CAUSE + FRAME.repeat(9) + CAUSE
                + FRAME.repeat(3), 25);
    }

    private static void moreLine() {
        Probe.sentence("Terms, a more line: a tab, '... ', a number and ' more'");
        Probe.isTrace("a\n\t... 0 more", 0);
        Probe.isTrace("a\n\t... 9999 more\n", 0);
        Probe.isTrace("a\n" + FRAME + "\t... 10 more\n" + CAUSE, 1);
        Probe.isTrace("a\n" + CAUSE + FRAME + "\t... 1 more", 1);
        for (String line : new String[] {"... 1 more", " ... 1 more", "\t\t... 1 more", "\t.. 1 more",
            "\t.... 1 more", "\t...1 more", "\t...  1 more", "\t... more", "\t...  more", "\t... 1",
            "\t... 1 ", "\t... 1more", "\t... 1  more", "\t... 1 mor", "\t... 1 more ", "\t... 1 mores",
            "\t... 1 More", "\t... a more", "\t", "\t...", "\t... "}) {
            Probe.isNoTrace("a\n" + line, 2);
            Probe.isNoTrace("a\n" + FRAME + line + "\n" + CAUSE, 3);
        }
    }

    private static void moreLineComesLast() {
        Probe.sentence("Terms, a trace: perhaps a more line, and perhaps a cause");
        Probe.isTrace("a\n\t... 1 more\n" + CAUSE + "\t... 1 more\n" + CAUSE + "\t... 2 more", 0);
        Probe.isNoTrace("a\n\t... 1 more\n\t... 1 more", 3);
        Probe.isNoTrace("a\n\t... 1 more\n" + FRAME, 3);
        Probe.isNoTrace("a\n\t... 1 more\n-", 3);
        Probe.isNoTrace("a\n" + CAUSE + "\t... 1 more\n" + FRAME, 4);
        Probe.isNoTrace("a\n" + CAUSE + "\t... 1 more\n\t... 1 more", 4);
        Probe.isTrace("a\n\t... 1 more\n" + CAUSE + FRAME, 1);
    }

    private static void causes() {
        Probe.sentence("Terms, a cause: 'Caused by: ' and a header in one line");
        Probe.isTrace("a\nCaused by: b", 0);
        Probe.isTrace("a\nCaused by: b: \n", 0);
        Probe.isTrace("a: 1\n" + FRAME + "Caused by: a: 1\n" + FRAME, 2);
        for (String line : new String[] {"Caused by: ", "Caused by:", "Caused by", "Caused by:b",
            "Caused by:  b", "Caused by b", "caused by: b", "Caused By: b", "\tCaused by: b",
            " Caused by: b", "Caused by: b ", "Caused by: b:", "Caused by: b:c", "Caused by: 1",
            "Caused by: Caused by: b", "Caused by: \tat b.c(D)", "b", "b: c"}) {
            Probe.isNoTrace("a\n" + line, 2);
            Probe.isNoTrace("a\n" + line + "\n", 2);
            Probe.isNoTrace("a\n\t... 1 more\n" + line + "\n" + FRAME, 3);
        }
        Probe.isNoTrace("a\nCaused by: \nb", 2);
    }

    private static void atMostThreeCauses() {
        Probe.sentence("Terms, a trace: there are at most 3 causes");
        for (int causes = 0; causes <= 3; causes++) {
            Probe.isTrace("a\n" + CAUSE.repeat(causes), 0);
            Probe.isTrace("a\n" + (CAUSE + FRAME + "\t... 1 more\n").repeat(causes), causes);
        }
        Probe.isNoTrace("a\n" + CAUSE.repeat(4), 5);
        Probe.isNoTrace("a\n" + CAUSE.repeat(5) + "-", 5);
        Probe.isNoTrace("a\n" + (CAUSE + FRAME + "\t... 1 more\n").repeat(4), 11);
    }

    private static void lastLineThatIsEmpty() {
        Probe.sentence("Terms, a trace: a last line that is empty is left out");
        Probe.isTrace("a\n", 0);
        Probe.isTrace("a\n" + FRAME, 1);
        Probe.isTrace("a\n" + CAUSE, 0);
        Probe.isTrace("a\n\t... 1 more\n", 0);
        Probe.isNoTrace("\n", 1);
        Probe.isNoTrace("\n\n", 1);
        Probe.isNoTrace("\na", 1);
        Probe.isNoTrace("a\n\n", 2);
        Probe.isNoTrace("a\n\n\n", 2);
        Probe.isNoTrace("a\n ", 2);
        Probe.isNoTrace("a\n\t\n", 2);
        Probe.isNoTrace("a\n\n" + FRAME, 2);
        Probe.isNoTrace("a\n" + FRAME + "\n", 3);
        Probe.isNoTrace("a\n\t... 1 more\n\n", 3);
        Probe.isNoTrace("a\n" + CAUSE + "\n", 3);
        Probe.isNoTrace("a\n#", 2);
    }

    private static void frameLine() {
        Probe.sentence("Terms, a frame line: a tab, 'at ', a call, (, a place and )");
        Probe.isTrace("a\n\tat b.c(D)", 1);
        for (String line : new String[] {"at b.c(D)", " at b.c(D)", "    at b.c(D)", "\t at b.c(D)",
            "\t\tat b.c(D)", "\tat  b.c(D)", "\tatb.c(D)", "\tAt b.c(D)", "\tat b.c (D)", "\tat b.c( D)",
            "\tat b.c(D )", "\tat b.c(D) ", "\tat b.c(D))", "\tat b.c((D)", "\tat b.c(D", "\tat b.cD)",
            "\tat b.c", "\tat b.c(", "\tat b.c()", "\tat b.c[D]", "\tat b(D)", "\tat (D)", "\tat ",
            "\tat b.c(D)x", "\tat b.c(D)(D)", "\tat b.c(D)\tat b.c(D)", "\tat b/c(D)",
            "\tat b.<init>(D)"}) {
            Probe.isNoTrace("a\n" + line, 2);
            Probe.isNoTrace("a\n" + FRAME + line + "\n" + FRAME, 3);
        }
    }

    private static void places() {
        Probe.sentence("Terms, a place: 'Unknown Source' or 'Native Method', or a file, perhaps with"
                + " a colon and a number");
        for (String place : new String[] {"Unknown Source", "Native Method", "D", "D.e", "D:0", "D.e:1",
            "D:9999", "Unknown", "Native", "UnknownSource:3", "Native.Method:3", "Source", "Method",
            "_:1", "$.$"}) {
            Probe.isTrace("a\n\tat b.c(" + place + ")", 1);
        }
        for (String place : new String[] {"Unknown Source:1", "Native Method:1", "Unknown  Source",
            "Unknown Source ", " Unknown Source", "unknown source", "Unknown Method", "Native Source",
            "native method", "Native Method.e", "Unknown SourceX", "Native Methods", "Unknown Sourc",
            "Native Metho", "Unknown ", "Native ", "Unknown Source)", "Native Method)", "D:", "D.e:",
            "D.:1", "D: 1", "D :1", "D:1 ", "D:1:1", "D:x", ":1", ".e", "D e", "1", "D.1", "D,e"}) {
            Probe.isNoTrace("a\n\tat b.c(" + place + ")", 2);
            Probe.isNoTrace("a\n\tat b.c(" + place + ")\n" + FRAME, 2);
        }
    }

    private static void firstWrongLine() {
        Probe.sentence("Terms, a trace: a line that is none of those that may come there is wrong;"
                + " promise 8: the number of the first");
        Probe.isNoTrace("-\n-", 1);
        Probe.isNoTrace("a\n-\n-", 2);
        Probe.isNoTrace("a\na\n", 2);
        Probe.isNoTrace("a\n    m -> n", 2);
        Probe.isNoTrace("a\n" + FRAME.repeat(20) + "-", 22);
        Probe.isNoTrace("a\n" + FRAME.repeat(20) + "\t... 1 more\n" + CAUSE.repeat(3) + "-", 26);
        // one line of both kinds of fault: too many frames, and a form that is none
        Probe.isNoTrace("a\n" + FRAME.repeat(20) + "\tat b\n", 22);
        Probe.isNoTrace("a\n" + CAUSE.repeat(3) + "Caused by: 1\n", 5);
    }
}
