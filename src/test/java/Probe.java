import java.util.function.IntSupplier;
import java.util.function.LongSupplier;

/** A desk under test: types whole texts, and tells each answer that is not the one that is due. */
final class Probe {
    static final String ILLEGAL_ARGUMENT = "IllegalArgumentException";
    static final String ILLEGAL_STATE = "IllegalStateException";
    static final String NO_SUCH_ELEMENT = "NoSuchElementException";
    static final String OUT_OF_BOUNDS = "IndexOutOfBoundsException";

    private static int checks = 0;
    private static int failures = 0;

    RetraceDesk desk = new RetraceDesk();

    static void same(String what, Object got, Object due) {
        checks++;
        if (!got.equals(due)) {
            failures++;
            System.out.println(what + "\n  answered: " + got + "\n  due is:   " + due);
        }
    }

    static void finish(String test) {
        System.out.println(test + ": " + (checks - failures) + " checks of " + checks + " hold");
        if (failures != 0) {
            System.exit(1);
        }
    }

    /** The answer as a text, or the name of what was thrown. */
    static String answer(IntSupplier call) {
        return longAnswer(() -> call.getAsInt());
    }

    static String longAnswer(LongSupplier call) {
        try {
            return Long.toString(call.getAsLong());
        } catch (RuntimeException e) {
            return e.getClass().getSimpleName();
        }
    }

    static long codes(String text) {
        long codes = 0;
        for (int i = 0; i < text.length(); i++) {
            codes = codes << 8 | text.charAt(i);
        }
        return codes;
    }

    boolean type(String text) {
        boolean all = true;
        for (int i = 0; i < text.length(); i += 8) {
            String piece = text.substring(i, Math.min(i + 8, text.length()));
            all &= desk.put(piece.length(), codes(piece));
        }
        return all;
    }

    String load(String text) {
        type(text);
        return answer(desk::load);
    }

    String retrace(String text) {
        type(text);
        return answer(desk::retrace);
    }

    String shorten(String text) {
        type(text);
        return answer(desk::shorten);
    }

    String report(String text) {
        type(text);
        return answer(desk::report);
    }

    String print() {
        StringBuilder text = new StringBuilder();
        for (int i = 0; i < desk.length(); i++) {
            text.append((char) desk.at(i));
        }
        return text.toString();
    }

    /** A mapping that is wrong, in which line, or how many groups it has. */
    static void loads(String mapping, String due, int wrong) {
        Probe probe = new Probe();
        same("load of\n" + mapping, probe.load(mapping), due);
        same("wrong() behind load of\n" + mapping, probe.desk.wrong(), wrong);
    }

    /** What all three readers of traces say to a text that is none. */
    static void isNoTrace(String text, int wrong) {
        Probe probe = new Probe();
        probe.load("");
        same("retrace of\n" + text, probe.retrace(text), ILLEGAL_ARGUMENT);
        same("wrong() behind retrace of\n" + text, probe.desk.wrong(), wrong);
        probe = new Probe();
        same("shorten of\n" + text, probe.shorten(text), ILLEGAL_ARGUMENT);
        same("wrong() behind shorten of\n" + text, probe.desk.wrong(), wrong);
        probe = new Probe();
        same("report of\n" + text, probe.report(text), ILLEGAL_ARGUMENT);
        same("wrong() behind report of\n" + text, probe.desk.wrong(), wrong);
        same("length() behind report of\n" + text, probe.desk.length(), 0);
    }

    void retraces(String trace, String frames, String print) {
        same("retrace of\n" + trace, retrace(trace), frames);
        same("print of retrace of\n" + trace, print(), print);
    }

    void shortens(String trace, String frames, String print) {
        same("shorten of\n" + trace, shorten(trace), frames);
        same("print of shorten of\n" + trace, print(), print);
    }
}
