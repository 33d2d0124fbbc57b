import java.lang.reflect.Field;
import java.lang.reflect.Method;
import java.lang.reflect.Modifier;
import java.nio.file.Files;
import java.nio.file.Path;
import java.util.Set;
import java.util.TreeSet;

/** The face of the class, some rules of LANGUAGE.md that a text search can see, and the room an object takes. */
public final class LanguageTest {
    private static final Set<String> FACE = new TreeSet<>(Set.of(
        "int feed(int,int,int,int,int)", "int program(int)", "int count(int)", "int function(int,int)",
        "int site(int,int)", "int argument(int,int)", "int run(int,int)", "int counted(int)", "int forget()",
        "int set(int,int)", "int tree(int,int)", "long gain(int,boolean)", "int node(int,int,int)",
        "long worth(int,int,int)", "int opened(int,int)", "int result(int,int)", "int line(int,int,int)",
        "int after(int,int)", "int saved(int)", "int folded(int,int)", "long best(int,int,int)",
        "int would(int,int,int,int)", "int left(int,int,int)", "int swap(int,int)"));

    private static void dueFace() {
        Set<String> found = new TreeSet<>();
        for (Method m : CallOpener.class.getDeclaredMethods()) {
            if (!Modifier.isPrivate(m.getModifiers()) && !m.isSynthetic()) {
                String s = m.toString().replace("public ", "").replace("CallOpener.", "");
                found.add(s);
            }
        }
        Check.due("the face " + found, found.equals(FACE) ? 1 : 0, 1);
        for (Field f : CallOpener.class.getDeclaredFields()) {
            boolean isNone = f.getName().equals("NONE");
            Check.due("field " + f, Modifier.isPrivate(f.getModifiers()) == isNone ? 1 : 0, 0);
        }
        Check.due("NONE", CallOpener.NONE, -1);
    }

    private static void dueNoneOf(String source, String... parts) {
        for (String part : parts) {
            Check.due("the source has " + part, source.indexOf(part) >= 0 ? 1 : 0, 0);
        }
    }

    private static void dueLanguage() throws java.io.IOException {
        String source = Files.readString(Path.of("src/main/java/CallOpener.java"));
        dueNoneOf(source, "throw", "try {", "catch", "synchronized", "assert ", "->", "::", "static {", "Exact(",
            "System.out", "package ", "Object ", "hashCode", "equals(", "toString");
        String[] lines = source.split("\n");
        int imports = 0;
        int classes = 0;
        for (String line : lines) {
            imports += line.startsWith("import ") ? 1 : 0;
            classes += line.contains("static final class ") ? 1 : 0;
        }
        Check.due("imports", imports, 1);
        Check.due("classes inside, eleven at most", Math.max(classes, 11), 11);
    }

    /** What an object holds, counted in elements; a room has some 7.3 million. */
    private static long elementsOf(Object o, Set<Object> seen) throws IllegalAccessException {
        if (o == null || !seen.add(o)) {
            return 0;
        }
        if (o.getClass().isArray()) {
            long all = java.lang.reflect.Array.getLength(o);
            if (o instanceof Object[]) {
                for (Object e : (Object[]) o) {
                    all += elementsOf(e, seen);
                }
            }
            return all;
        }
        long all = 0;
        for (Field f : o.getClass().getDeclaredFields()) {
            if (!Modifier.isStatic(f.getModifiers())) {
                all++;
                f.setAccessible(true);
                all += f.getType().isPrimitive() ? 0 : elementsOf(f.get(o), seen);
            }
        }
        return all;
    }

    private static void dueRoom() throws IllegalAccessException {
        Set<Object> seen = java.util.Collections.newSetFromMap(new java.util.IdentityHashMap<>());
        long all = elementsOf(new CallOpener(), seen);
        System.out.println("LanguageTest: an object holds " + all + " elements in " + seen.size() + " objects");
        Check.due("elements above 60000", all > 60000 ? 1 : 0, 0);
        Check.due("objects above 1000", seen.size() > 1000 ? 1 : 0, 0);
    }

    /** The dearest calls there are, once the object is made: they make next to nothing. */
    private static void dueNothingMade() {
        StringBuilder text = new StringBuilder("fun f(n){if n{n=n-1;");
        for (int k = 0; k < 16; k++) {
            text.append("x=f(n);");
        }
        CallOpener x = Check.countedWith(text.append("}}").toString(), 1);
        long before = made();
        for (int i = 0; i < 60; i++) {
            x.set(0, 300 - i % 2);
            x.line(0, 297, 0);
            x.after(0, 2);
            x.saved(0);
            x.folded(0, 5);
            x.best(0, 300, 0);
            x.would(0, 3, 0, 0);
            x.program(0 - i);
        }
        long bytes = made() - before;
        System.out.println("LanguageTest: 480 dear calls make " + bytes + " bytes");
        Check.due("bytes above 20000", bytes > 20000 ? 1 : 0, 0);
    }

    private static long made() {
        java.lang.management.ThreadMXBean threads = java.lang.management.ManagementFactory.getThreadMXBean();
        if (threads instanceof com.sun.management.ThreadMXBean) {
            return ((com.sun.management.ThreadMXBean) threads).getThreadAllocatedBytes(Thread.currentThread().getId());
        }
        return 0;
    }

    public static void main(String[] args) throws Exception {
        dueFace();
        dueLanguage();
        dueRoom();
        dueNothingMade();
        Check.end("LanguageTest");
    }
}
