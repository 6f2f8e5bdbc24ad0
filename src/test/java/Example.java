/** The example of README.md: a trace turned back and forth, crashes counted, a wrong line found. */
public final class Example {
    private static final String MAPPING = """
            # what the shrinker wrote
            shop.Cart -> a:
                1:4:add:20:23 -> a
                5:5:shop.Price.check:7 -> a
                5:5:add:30 -> a
                clear -> b
                close -> b
            shop.Error -> c:
            """;

    public static void main(String[] args) {
        RetraceDesk desk = new RetraceDesk();

        type(desk, MAPPING);
        System.out.println("load() = " + desk.load() + ", groups(0) = " + desk.groups(0));

        type(desk, "c: 12 left\n\tat a.a(SourceFile:5)\n\tat a.b(Unknown Source)\n");
        System.out.println("retrace() = " + desk.retrace() + ", doubtful() = " + desk.doubtful());
        System.out.print(printOf(desk));

        type(desk, "shop.Error\n\tat shop.Cart.add(Cart.java:22)\n\t... 3 more\n");
        System.out.println("shorten() = " + desk.shorten());
        System.out.print(printOf(desk));

        type(desk, "c: 12 left\n\tat a.a(SourceFile:2)\n");
        System.out.println("report() = " + desk.report());
        type(desk, "c: 7 left\n\tat a.a(SourceFile:4)\n");
        System.out.println("report() = " + desk.report() + ", crashes() = " + desk.crashes());
        System.out.println("key(0) = " + desk.key(0) + ", reports(0, 0) = " + desk.reports(0, 0)
                + ", (0, 1) = " + desk.reports(0, 1) + ", (0, 2) = " + desk.reports(0, 2));

        type(desk, "shop.Cart -> a:\n    add -> a\n    oops\n");
        try {
            desk.load();
        } catch (IllegalArgumentException e) {
            System.out.println("load() threw, wrong() = " + desk.wrong());
        }
        System.out.println("groups(0) = " + desk.groups(0) + ", length() = " + desk.length());
    }

    /** Appends a text to the draft, up to eight characters a call, the first in the highest byte. */
    private static void type(RetraceDesk desk, String text) {
        for (int start = 0; start < text.length(); start += 8) {
            int n = Math.min(8, text.length() - start);
            long codes = 0;
            for (int i = start; i < start + n; i++) {
                codes = codes << 8 | text.charAt(i);
            }
            if (!desk.put(n, codes)) {
                throw new IllegalStateException("the draft does not take this");
            }
        }
    }

    private static String printOf(RetraceDesk desk) {
        int length = desk.length();
        StringBuilder text = new StringBuilder();
        for (int i = 0; i < length; i++) {
            text.append((char) desk.at(i));
        }
        return text.toString();
    }
}
