import java.io.IOException;
import java.lang.management.ManagementFactory;
import java.lang.reflect.Constructor;
import java.lang.reflect.Field;
import java.lang.reflect.Method;
import java.lang.reflect.Modifier;
import java.nio.file.Files;
import java.nio.file.Path;
import java.util.Arrays;
import java.util.TreeSet;
import java.util.regex.Matcher;
import java.util.regex.Pattern;

/** The public face, words that LANGUAGE.md rules out, and that no call makes an object. */
public final class LanguageTest {
    private static final String[] FACE = {
        "int anew(boolean)", "int post()", "int road(int,int)", "int worth(int,boolean,int)", "int drop(int)",
        "int join(int,int)", "int of(int,int)", "int undo()", "int sheet(int,int,int)", "int put(int,int,int)",
        "int copy(int,int,int,int,int)", "int lay(int)", "int hold(int,int)", "int cut(int,int)", "int netHold()",
        "int least(int)", "int apart(int,int)", "int heap(int,int)", "int still(boolean,int)", "int bridges()",
        "int joints()", "int block(int)", "int harder(int)", "int best(int)", "int take()", "int pack()",
        "int forests()", "long trees()", "int arms(int)", "int turns()", "int strong()", "long chance()",
        "int tell(int)", "int would()", "int way(int,int)", "int keep(int)", "int bring(int)", "int as(int,int)",
        "int told(int)"};

    private LanguageTest() {
    }

    public static void main(String[] args) throws IOException {
        face();
        namesInside();
        membersOf(RoadBench.class);
        for (Class<?> c : RoadBench.class.getDeclaredClasses()) {
            membersOf(c);
        }
        words();
        lengths();
        room();
        roomOfANewBench();
        Check.end();
    }

    private static String text(Method m) {
        StringBuilder text = new StringBuilder(m.getReturnType() + " " + m.getName() + "(");
        for (Class<?> type : m.getParameterTypes()) {
            text.append(text.charAt(text.length() - 1) == '(' ? "" : ",").append(type);
        }
        return text.append(")").toString();
    }

    private static void face() {
        TreeSet<String> open = new TreeSet<>();
        for (Method m : RoadBench.class.getDeclaredMethods()) {
            if (!Modifier.isPrivate(m.getModifiers())) {
                open.add(text(m));
            }
        }
        Check.holds("the face is the document's: " + open, open.equals(new TreeSet<>(Arrays.asList(FACE))));
        Check.holds("the class is public and final",
                (RoadBench.class.getModifiers() & (Modifier.PUBLIC | Modifier.FINAL))
                        == (Modifier.PUBLIC | Modifier.FINAL));
        Constructor<?>[] constructors = RoadBench.class.getDeclaredConstructors();
        Check.holds("one public constructor without arguments", constructors.length == 1
                && Modifier.isPublic(constructors[0].getModifiers()) && constructors[0].getParameterCount() == 0);
        for (Field f : RoadBench.class.getDeclaredFields()) {
            Check.holds(f + " is private", Modifier.isPrivate(f.getModifiers()));
        }
    }

    private static void namesInside() {
        TreeSet<String> names = new TreeSet<>();
        for (String line : FACE) {
            names.add(line.substring(line.indexOf(' ') + 1, line.indexOf('(')));
        }
        Class<?>[] inside = RoadBench.class.getDeclaredClasses();
        Check.holds("at most twelve classes", inside.length <= 11);
        for (Class<?> c : inside) {
            Check.holds(c + " is static", Modifier.isStatic(c.getModifiers()));
            for (Method m : c.getDeclaredMethods()) {
                Check.holds(m + " bears no name of the face", !names.contains(m.getName()));
            }
            Check.holds(c + " has few fields", c.getDeclaredFields().length <= 20);
        }
        for (Method m : RoadBench.class.getDeclaredMethods()) {
            if (Modifier.isPrivate(m.getModifiers())) {
                Check.holds(m + " bears no name of the face", !names.contains(m.getName()));
            }
        }
    }

    private static void membersOf(Class<?> c) {
        for (Method m : c.getDeclaredMethods()) {
            Check.holds(m + " has few parameters", m.getParameterCount() <= 7);
        }
        for (Field f : c.getDeclaredFields()) {
            Check.holds(f + " is no static state",
                    !Modifier.isStatic(f.getModifiers()) || Modifier.isFinal(f.getModifiers()));
        }
    }

    /** A method ends at the first line that closes at its own depth. */
    private static void lengths() throws IOException {
        String end = null;
        int length = 0;
        int methods = 0;
        for (String line : Files.readAllLines(Path.of("src/main/java/RoadBench.java"))) {
            length++;
            if (end == null && line.endsWith(") {") && line.matches(" {4}( {4})?[a-z].*")) {
                end = line.replaceAll("\\S.*", "}");
                length = 1;
            } else if (line.equals(end)) {
                Check.holds("a method of " + length + " lines", length <= 60);
                end = null;
                methods++;
            }
        }
        Check.holds("methods are found: " + methods, methods > FACE.length + 1);
    }

    private static void words() throws IOException {
        String source = Files.readString(Path.of("src/main/java/RoadBench.java"));
        String code = source.replaceAll("(?s)/\\*.*?\\*/", " ").replaceAll("//[^\n]*", " ");
        Pattern ruledOut = Pattern.compile("\\b(throw|throws|try|catch|synchronized|assert|import|package|Object|"
                + "System\\.(?!arraycopy)\\w+|\\w+Exact|Random|Thread|equals|hashCode|toString|MAX_VALUE|MIN_VALUE)\\b"
                + "|->|::");
        Matcher m = ruledOut.matcher(code);
        while (m.find()) {
            Check.holds("the source is without " + m.group(), false);
        }
        Check.holds("the source is read", code.contains("public final class RoadBench"));
        Check.holds("signs are 1 to 127", source.chars().allMatch(c -> c > 0 && c < 128));
    }

    /** Bytes are told by the machine for this thread; a small rest is left for what the measuring itself makes. */
    private static void room() {
        com.sun.management.ThreadMXBean threads =
                (com.sun.management.ThreadMXBean) ManagementFactory.getThreadMXBean();
        long id = Thread.currentThread().getId();
        RoadBench x = new RoadBench();
        allCalls(x);
        long before = threads.getThreadAllocatedBytes(id);
        for (int i = 0; i < 50; i++) {
            allCalls(x);
        }
        long made = threads.getThreadAllocatedBytes(id) - before;
        Check.holds("2000 calls make no objects, but made " + made + " bytes", made < 4000);
    }

    /** All the room of a run is the bench's own rows: some 200 objects and arrays with some 5000 elements. */
    private static void roomOfANewBench() {
        com.sun.management.ThreadMXBean threads =
                (com.sun.management.ThreadMXBean) ManagementFactory.getThreadMXBean();
        long id = Thread.currentThread().getId();
        long before = threads.getThreadAllocatedBytes(id);
        RoadBench x = new RoadBench();
        long made = threads.getThreadAllocatedBytes(id) - before;
        Check.due("a new bench has no posts", x.told(0), 0);
        Check.holds("a new bench is small, but made " + made + " bytes", made < 64_000);
    }

    private static void allCalls(RoadBench x) {
        for (int turned = 0; turned < 2; turned++) {
            x.anew(turned == 1);
            x.sheet(0, 8, 2);
            x.put(0, 1, 1);
            x.copy(0, 0, 0, 1, 1);
            x.put(0, 1, 1);
            for (int i = 0; i < 7; i++) {
                x.post();
            }
            x.lay(0);
            for (int i = 0; i < 7; i++) {
                x.road(i, (i + 1) % 7);
            }
            x.worth(1, true, 3);
            x.drop(0);
            x.join(2, 6);
            x.of(0, 0);
            x.undo();
            x.hold(0, 3);
            x.cut(0, 3);
            x.netHold();
            x.least(0);
            x.apart(0, 3);
            x.heap(0, 2);
            x.still(true, 1);
            x.bridges();
            x.joints();
            x.block(0);
            x.harder(3);
            x.best(1);
            x.pack();
            x.forests();
            x.trees();
            x.arms(0);
            x.turns();
            x.strong();
            x.chance();
            x.tell(0);
            x.tell(2);
            x.would();
            x.tell(0);
            x.way(0, 1);
            x.keep(0);
            x.take();
            x.bring(0);
            x.as(0, 0);
            x.told(3);
        }
    }
}
