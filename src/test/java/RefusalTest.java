import java.util.Map;

/** Promise 8, the last sentence of the terms, and which exception comes first. */
public final class RefusalTest {
    private static final String[] READERS = {"retrace", "shorten", "report"};
    private static final String LONG = "L".repeat(40);

    public static void main(String[] args) {
        wrongBefore();
        wrongOfTheLatest();
        wrongStaysWithoutIt();
        readersLeaveAnEmptyDraft();
        loadLeavesAnEmptyDraft();
        stateBehindNoMapping();
        traceBeforeMapping();
        traceBeforeLength();
        traceBeforeGroups();
        questionsKeepTheDraft();
        refusedPutKeepsTheDraft();
        goesOnAsBefore();
        nothingIsLeftOfOlderDrafts();
        fullDraftsThatBreakOff();
        Probe.finish("RefusalTest");
    }

    private static void wrongBefore() {
        Probe.sentence("Promise 8: 0 before that");
        Probe probe = new Probe();
        Probe.same("wrong()", probe.wrong(), "0");
        probe.put(9, 0);
        probe.at(0);
        probe.groups(0);
        probe.key(0);
        probe.reports(0, 3);
        Probe.same("wrong() behind calls of others that threw", probe.wrong(), "0");
        probe.retrace("a");
        probe.shorten("a");
        probe.report("a");
        Probe.same("wrong() behind IllegalStateException", probe.wrong(), "0");
        probe.load("a -> b:");
        probe.retrace("a");
        probe.shorten("a");
        probe.report("a");
        probe.reports(0, 3);
        Probe.same("wrong() behind calls that did not throw", probe.wrong(), "0");
    }

    private static void wrongOfTheLatest() {
        Probe.sentence("Promise 8: the number of the first wrong line when one of those four calls threw"
                + " IllegalArgumentException latest");
        Probe probe = Probe.used();
        Map<String, String> before = probe.state();
        probe.load("a -> b:\n\n\nx");
        probe.shows("load()", before, "wrong", "4");
        probe.retrace("a\n-");
        probe.shows("retrace()", before, "wrong", "2");
        probe.shorten("");
        probe.shows("shorten()", before, "wrong", "1");
        probe.report("a\n\tat a.b(C)\n\n");
        probe.shows("report()", before, "wrong", "3");
        probe.load("-");
        probe.shows("load()", before, "wrong", "1");
        probe.report("a\n" + "\tat b.c(D)\n".repeat(21));
        probe.shows("report()", before, "wrong", "22");
        probe.shorten("a\n-");
        probe.shows("shorten()", before, "wrong", "2");
    }

    private static void wrongStaysWithoutIt() {
        Probe.sentence("Promise 8: calls behind that which did not throw it don't change it");
        Probe probe = new Probe();
        probe.retrace("a\n\t... 1 more\n-");
        Probe.same("wrong()", probe.wrong(), "3");
        for (String name : READERS) {
            Probe.same(name + "()", probe.read(name, "a"), Probe.ILLEGAL_STATE);
            Probe.same("wrong() behind IllegalStateException", probe.wrong(), "3");
        }
        probe.load("");
        Probe.same("wrong() behind load()", probe.wrong(), "3");
        for (String name : READERS) {
            Probe.same(name + "()", probe.read(name, "a"), "0");
            Probe.same("wrong() behind " + name + "()", probe.wrong(), "3");
        }
        probe.put(0, 0);
        probe.put(1, 'a');
        probe.scrap();
        probe.at(-1);
        probe.groups(-1);
        probe.key(-1);
        probe.reports(-1, 0);
        Probe.same("reports(0, 3)", probe.reports(0, 3), Probe.ILLEGAL_ARGUMENT);
        Probe.same("wrong() behind calls of others", probe.wrong(), "3");
    }

    private static void readersLeaveAnEmptyDraft() {
        Probe.sentence("Terms, last: retrace(), shorten() and report() leave an empty draft then, too");
        for (String name : READERS) {
            for (String text : new String[] {"-", "a\n-", "a: " + "x".repeat(596) + "\n", "a\n\n",
                "a: \n" + "-".repeat(596)}) {
                Probe probe = Probe.used();
                String answer = probe.read(name, text);
                Probe.same("draft behind " + name + "() of\n" + text, probe.state().get("draft"), "0");
                Probe.same("600 more characters", probe.type("b: " + "y".repeat(597)) == probe, true);
                Probe.same("their print", probe.retrace("") + probe.print(),
                        "0b: " + "y".repeat(597) + "\n");
                Probe.same("answer", answer.equals(Probe.ILLEGAL_ARGUMENT), !text.endsWith("x\n"));
            }
        }
    }

    private static void loadLeavesAnEmptyDraft() {
        Probe.sentence("Terms, last: load() leaves an empty draft then, too");
        for (String text : new String[] {"-", "a -> b:\n-", "#" + "x".repeat(597) + "\n-"}) {
            Probe probe = Probe.used();
            Map<String, String> before = probe.state();
            Probe.same("load()", probe.load(text), Probe.ILLEGAL_ARGUMENT);
            probe.shows("load() of\n" + text, before, "wrong", text.equals("-") ? "1" : "2");
            Probe.same("load() of what it left", probe.load(""), "0");
            probe.shows("load() of nothing", before, "wrong", text.equals("-") ? "1" : "2",
                    "groups", "", "renames", Probe.ANY);
        }
    }

    private static void stateBehindNoMapping() {
        Probe.sentence("Promises 5 to 7: IllegalStateException when no mapping was loaded");
        for (String name : READERS) {
            Probe probe = new Probe();
            probe.retrace("a\n-");
            Map<String, String> before = probe.state();
            Probe.same(name + "()", probe.read(name, "a\n\tat b.c(D)"), Probe.ILLEGAL_STATE);
            probe.shows(name + "() without a mapping", before);
            probe.load("x");
            before = probe.state();
            Probe.same(name + "()", probe.read(name, "a"), Probe.ILLEGAL_STATE);
            probe.shows(name + "() behind a wrong mapping", before);
            probe.load("");
            Probe.same(name + "() with an empty mapping", probe.read(name, "a"), "0");
            Probe.same("print", probe.print(), "a\n");
        }
    }

    private static void traceBeforeMapping() {
        Probe.sentence("Promise 5: IllegalArgumentException when it is no trace; else"
                + " IllegalStateException when no mapping was loaded");
        for (String name : READERS) {
            Probe probe = new Probe();
            Map<String, String> before = probe.state();
            Probe.same(name + "() of no trace", probe.read(name, "a\nb"), Probe.ILLEGAL_ARGUMENT);
            probe.shows(name + "() of no trace", before, "wrong", "2");
        }
    }

    private static void traceBeforeLength() {
        Probe.sentence("Promise 5: IllegalArgumentException when it is no trace; else"
                + " IllegalStateException when the print would be too long");
        String mapping = LONG + " -> b:\nc -> " + LONG.toLowerCase() + ":\n";
        for (String name : READERS) {
            String letter = name.equals("shorten") ? "c" : "b";
            String tooLong = "y\n" + ("\tat " + letter + ".m(Native Method)\n").repeat(20);
            Probe probe = Probe.used();
            probe.load(mapping);
            Map<String, String> before = probe.state();
            Probe.same(name + "() too long", probe.read(name, tooLong), Probe.ILLEGAL_STATE);
            probe.shows(name + "() too long", before);
            Probe.same(name + "() too long and no trace", probe.read(name, tooLong + "-"),
                    Probe.ILLEGAL_ARGUMENT);
            probe.shows(name + "() too long and no trace", before, "wrong", "22");
        }
    }

    private static void traceBeforeGroups() {
        Probe.sentence("Promise 7: throws as retrace() does, and IllegalStateException, too, when it"
                + " would be a 17th group");
        Probe probe = Probe.loaded(LONG + " -> b:\n    m -> n\n    o -> n\n");
        for (int i = 0; i < 16; i++) {
            probe.report("" + (char) ('c' + i));
        }
        Map<String, String> before = probe.state();
        Probe.same("a 17th group", probe.report("y\n\tat b.n(S)"), Probe.ILLEGAL_STATE);
        probe.shows("a 17th group", before);
        Probe.same("a 17th group, too long", probe.report("y\n"
                + "\tat b.n(Native Method)\n".repeat(20)), Probe.ILLEGAL_STATE);
        probe.shows("a 17th group, too long", before);
        Probe.same("no trace", probe.report("y\n\tat b.n(S)\ny"), Probe.ILLEGAL_ARGUMENT);
        probe.shows("no trace", before, "wrong", "3");
        Probe.same("a known group", probe.report("r"), "15");
        Probe.same("its reports", probe.reports(15, 0) + probe.reports(15, 2), "217");
    }

    private static void questionsKeepTheDraft() {
        Probe.sentence("Terms, last: a call that throws changes nothing (at, groups, key, reports)");
        Probe probe = Probe.used();
        probe.load("wrong");
        probe.type("a: kept");
        Map<String, String> before = probe.state();
        Probe.same("at(-1)", probe.at(-1), Probe.OUT_OF_BOUNDS);
        probe.shows("at(-1)", before);
        Probe.same("at(1000)", probe.at(1000), Probe.OUT_OF_BOUNDS);
        probe.shows("at(1000)", before);
        Probe.same("groups(1)", probe.groups(1), Probe.NO_SUCH_ELEMENT);
        probe.shows("groups(1)", before);
        Probe.same("key(1)", probe.key(1), Probe.NO_SUCH_ELEMENT);
        probe.shows("key(1)", before);
        Probe.same("reports(1, 0)", probe.reports(1, 0), Probe.NO_SUCH_ELEMENT);
        probe.shows("reports(1, 0)", before);
        Probe.same("reports(0, 3)", probe.reports(0, 3), Probe.ILLEGAL_ARGUMENT);
        probe.shows("reports(0, 3)", before);
        probe.wrong();
        probe.length();
        probe.at(0);
        probe.doubtful();
        probe.groups(0);
        probe.crashes();
        probe.key(0);
        probe.reports(0, 2);
        probe.shows("questions that did not throw", before);
        probe.retraces("!", "0", "a: kept!\n");
    }

    private static void refusedPutKeepsTheDraft() {
        Probe.sentence("Promise 2: a put that is refused changes nothing");
        Probe probe = Probe.used().type("a: kept");
        Map<String, String> before = probe.state();
        Probe.same("put(0)", probe.put(0, 'b'), "false");
        Probe.same("put(9)", probe.put(9, 'b'), "false");
        Probe.same("put of a wrong code", probe.put(2, 0x6200), "false");
        probe.shows("put", before);
        probe.retraces("!", "0", "a: kept!\n");
    }

    private static void goesOnAsBefore() {
        Probe.sentence("Terms, last: behind calls that threw, the next ones answer as if they had not"
                + " been");
        Probe probe = Probe.used();
        Probe other = Probe.used();
        for (String name : READERS) {
            probe.read(name, "a\n\tat o.n(S:1)\n\tat o.n(S:1)\n\t... 1 more\n-");
            probe.load("b -> o:\n    1:1:p -> n\n-");
            String text = "o: 1\n\tat o.n(S:1)\n\tat a.Old.k(S)\nCaused by: a.Old";
            Probe.same(name + "()", probe.read(name, text), other.read(name, text));
            probe.shows(name + "()", other.state(), "wrong", "3");
        }
    }

    private static final String WHOLE_MAPPING = "# note\nb.B$c -> o:\n    10:12:q.R.p:340:342 -> n\n"
            + "    10:12:s:56:56 -> n\n\n    10:12:t:7 -> n\n    18:19:u -> n\n    v -> w\nx.y -> z:\n";
    private static final String WHOLE_TRACE = "o: 12 : \n\tat o.n(S.t:11)\n\tat o.w(Native Method)\n"
            + "\tat q.R.p(S:340)\n\tat p.q(Unknown Source)\n\t... 10 more\n"
            + "Caused by: b.B$c\n\tat z.w(S:18)";

    private static void nothingIsLeftOfOlderDrafts() {
        Probe.sentence("Terms, last, and promises 4 to 7: nothing is left of a longer draft before");
        for (int size = 0; size <= WHOLE_MAPPING.length(); size++) {
            String text = WHOLE_MAPPING.substring(0, size);
            Probe probe = Probe.used();
            Probe fresh = Probe.used();
            probe.load(WHOLE_MAPPING);
            probe.load(Probe.USED_MAPPING);
            Probe.same("load() of\n" + text, probe.load(text), fresh.load(text));
            probe.shows("load() of\n" + text, fresh.state());
        }
        for (String name : READERS) {
            for (int size = 0; size <= WHOLE_TRACE.length(); size++) {
                String text = WHOLE_TRACE.substring(0, size);
                Probe probe = Probe.loaded(WHOLE_MAPPING);
                Probe fresh = Probe.loaded(WHOLE_MAPPING);
                probe.retrace(WHOLE_TRACE);
                probe.retrace("i");
                fresh.retrace("i");
                Probe.same(name + "() of\n" + text, probe.read(name, text), fresh.read(name, text));
                probe.shows(name + "() of\n" + text, fresh.state());
            }
        }
    }

    /** Where the draft is full, nothing may be looked for behind its end. */
    private static void fullDraftsThatBreakOff() {
        Probe.sentence("Promises 4 to 7: a draft of 600 characters that breaks off anywhere");
        for (int size = 7; size <= WHOLE_MAPPING.length(); size++) {
            String text = WHOLE_MAPPING.substring(7, size);
            Probe probe = Probe.used();
            Probe brief = Probe.used();
            Probe.same("load() of 600, ending with\n" + text,
                    probe.load("#" + "x".repeat(598 - text.length()) + "\n" + text),
                    brief.load("#\n" + text));
            probe.shows("load() of 600, ending with\n" + text, brief.state());
        }
        for (String name : READERS) {
            for (int size = 9; size <= WHOLE_TRACE.length(); size++) {
                String text = WHOLE_TRACE.substring(9, size);
                Probe probe = Probe.loaded(WHOLE_MAPPING);
                Probe brief = Probe.loaded(WHOLE_MAPPING);
                Probe.same(name + "() of 600, ending with\n" + text,
                        probe.read(name, "i: " + "x".repeat(596 - text.length()) + "\n" + text),
                        brief.read(name, "i: x\n" + text));
                Probe.same("print", probe.print().replaceAll("x+", "x"), brief.print());
                Probe.same("wrong()", probe.wrong(), brief.wrong());
            }
        }
    }
}
