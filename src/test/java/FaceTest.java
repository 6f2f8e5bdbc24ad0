import java.lang.reflect.Constructor;
import java.lang.reflect.Executable;
import java.lang.reflect.Field;
import java.lang.reflect.Method;
import java.lang.reflect.Modifier;
import java.util.ArrayList;
import java.util.HashSet;
import java.util.List;
import java.util.Set;
import java.util.TreeSet;

/** The public face, and the rules of LANGUAGE.md that can be seen from the compiled class. */
public final class FaceTest {
    private static final String ARGUMENT = "java.lang.IllegalArgumentException";
    private static final String STATE = "java.lang.IllegalStateException";
    private static final String ELEMENT = "java.util.NoSuchElementException";
    private static final String BOUNDS = "java.lang.IndexOutOfBoundsException";
    private static final String[] FACE = {
        "public RetraceDesk()",
        "public boolean RetraceDesk.put(int,long)",
        "public void RetraceDesk.scrap()",
        "public int RetraceDesk.load() throws " + ARGUMENT,
        "public int RetraceDesk.retrace() throws " + ARGUMENT + "," + STATE,
        "public int RetraceDesk.shorten() throws " + ARGUMENT + "," + STATE,
        "public int RetraceDesk.report() throws " + ARGUMENT + "," + STATE,
        "public int RetraceDesk.wrong()",
        "public int RetraceDesk.length()",
        "public int RetraceDesk.at(int) throws " + BOUNDS,
        "public int RetraceDesk.doubtful()",
        "public int RetraceDesk.groups(int) throws " + ELEMENT,
        "public int RetraceDesk.crashes()",
        "public long RetraceDesk.key(int) throws " + ELEMENT,
        "public int RetraceDesk.reports(int,int) throws " + ELEMENT + "," + ARGUMENT};
    private static final int MOST_CLASSES = 12;
    private static final int MOST_FIELDS = 20;
    private static final int MOST_PARAMETERS = 7;

    public static void main(String[] args) {
        face();
        nothingElseIsSeen();
        classesInside();
        staticState();
        sizes();
        Probe.finish("FaceTest");
    }

    private static List<Class<?>> allClasses() {
        List<Class<?>> all = new ArrayList<>();
        all.add(RetraceDesk.class);
        for (int i = 0; i < all.size(); i++) {
            all.addAll(List.of(all.get(i).getDeclaredClasses()));
        }
        return all;
    }

    private static List<Executable> callsOf(Class<?> type) {
        List<Executable> all = new ArrayList<>();
        all.addAll(List.of(type.getDeclaredConstructors()));
        all.addAll(List.of(type.getDeclaredMethods()));
        return all;
    }

    private static void face() {
        Probe.sentence("The public face: each constructor and method, with the exceptions it names");
        Probe.same("the class", Modifier.toString(RetraceDesk.class.getModifiers()), "public final");
        Probe.same("its package", RetraceDesk.class.getPackageName(), "");
        Probe.same("what it extends", RetraceDesk.class.getSuperclass(), Object.class);
        Probe.same("what it implements", RetraceDesk.class.getInterfaces().length, 0);
        Set<String> got = new TreeSet<>();
        for (Executable call : callsOf(RetraceDesk.class)) {
            if (!Modifier.isPrivate(call.getModifiers())) {
                got.add(call.toString());
            }
        }
        Probe.same("its face", got, new TreeSet<>(List.of(FACE)));
    }

    private static void nothingElseIsSeen() {
        Probe.sentence("Rule 1: no other public, protected or package-visible member; no private method"
                + " bears the name of a public one");
        Set<String> names = new HashSet<>();
        for (Method method : RetraceDesk.class.getMethods()) {
            names.add(method.getName());
        }
        for (Method method : RetraceDesk.class.getDeclaredMethods()) {
            if (Modifier.isPrivate(method.getModifiers())) {
                Probe.same(method + " has a public name", names.contains(method.getName()), false);
            }
        }
        for (Field field : RetraceDesk.class.getDeclaredFields()) {
            Probe.same(field + " is private", Modifier.isPrivate(field.getModifiers()), true);
        }
    }

    private static void classesInside() {
        Probe.sentence("Rules 1 and 2: classes inside are static, and neither public nor protected; no"
                + " lambda, no exception of its own");
        for (Class<?> type : allClasses()) {
            if (type != RetraceDesk.class) {
                int flags = type.getModifiers();
                Probe.same(type + " is static", Modifier.isStatic(flags), true);
                Probe.same(type + " is seen", Modifier.isPublic(flags) || Modifier.isProtected(flags),
                        false);
            }
            Probe.same(type + " is thrown", Throwable.class.isAssignableFrom(type), false);
            for (Executable call : callsOf(type)) {
                Probe.same(call + " was written", call.isSynthetic(), false);
                Probe.same(call + " is synchronized", Modifier.isSynchronized(call.getModifiers()),
                        false);
            }
            for (Constructor<?> maker : type.getDeclaredConstructors()) {
                Probe.same(maker + " throws", maker.getExceptionTypes().length, 0);
            }
        }
    }

    private static void staticState() {
        Probe.sentence("Rule 5: static fields are final, and constants");
        Set<Class<?>> kinds = Set.of(int.class, long.class, boolean.class, char.class, String.class);
        for (Class<?> type : allClasses()) {
            for (Field field : type.getDeclaredFields()) {
                if (Modifier.isStatic(field.getModifiers())) {
                    Probe.same(field + " is final", Modifier.isFinal(field.getModifiers()), true);
                    Probe.same(field + " is a constant", kinds.contains(field.getType()), true);
                }
            }
        }
    }

    private static void sizes() {
        Probe.sentence("Rule 11: at most seven parameters, twelve classes, twenty fields");
        Probe.same("few classes", allClasses().size() <= MOST_CLASSES, true);
        for (Class<?> type : allClasses()) {
            int fields = 0;
            for (Field field : type.getDeclaredFields()) {
                fields += Modifier.isStatic(field.getModifiers()) ? 0 : 1;
            }
            Probe.same("few fields in " + type, fields <= MOST_FIELDS, true);
            for (Executable call : callsOf(type)) {
                Probe.same("few parameters of " + call, call.getParameterCount() <= MOST_PARAMETERS,
                        true);
            }
        }
    }
}
