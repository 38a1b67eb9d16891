import com.sun.management.ThreadMXBean;
import java.io.File;
import java.lang.management.ManagementFactory;
import java.lang.reflect.Array;
import java.lang.reflect.Constructor;
import java.lang.reflect.Field;
import java.lang.reflect.Method;
import java.lang.reflect.Modifier;
import java.nio.file.Files;
import java.nio.file.Path;
import java.util.ArrayList;
import java.util.Arrays;
import java.util.List;
import java.util.Set;
import java.util.TreeSet;
import java.util.regex.Matcher;
import java.util.regex.Pattern;

/** The document's face, and rules of LANGUAGE.md that a machine can look at. */
public final class RulesTest {
    private static final String[] FACE = {"boolean road(int,int,int)", "int way(int,int)", "boolean weight(int,int)",
        "int carriers(int,int)", "int feed(int,int,int,int,int)", "int end(int)", "int copy(int)", "int fault(int)",
        "int tells(int,int,int)", "int owed(int,int)", "int quarrel(int,int)", "int quarrels()", "int send(int,int,int)",
        "int sending(int,int)", "int days(int)", "int account(int,int,int)", "long late(int)", "int piece(int)",
        "int market(int,int,int,int)", "int barter(int,int,int)", "int bartered(int)", "boolean yields(int,int)",
        "int parted(int,int)", "int about(int)"};

    private static final Set<String> FORBIDDEN = Set.of("throw", "throws", "try", "catch", "synchronized", "assert", "native",
        "protected", "volatile", "transient", "double", "float", "var", "package", "equals", "hashCode", "toString");

    private static final Set<String> LIBRARY = Set.of("String", "StringBuilder", "Integer", "Long", "Math", "Arrays", "System",
        "List", "ArrayList", "Math.min", "Math.max", "Math.abs", "Math.floorDiv", "Math.floorMod", "Arrays.fill",
        "Arrays.copyOf", "Arrays.copyOfRange", "System.arraycopy");

    private static final Set<Class<?>> CONSTANTS = Set.of(int.class, long.class, boolean.class, char.class, String.class,
        int[].class, long[].class, char[].class, byte[].class);

    private static final Set<String> OPEN_NAMES = new TreeSet<>();

    public static void main(String[] args) throws Exception {
        for (String f : FACE) {
            OPEN_NAMES.add(f.substring(f.indexOf(' ') + 1, f.indexOf('(')));
        }
        openClass();
        openMethods();
        openConstant();
        openConstructor();
        classesInside();
        for (Class<?> c : allClasses()) {
            fieldsOf(c);
            methodsOf(c);
        }
        String code = code();
        words(code);
        library(code);
        shortMethods(code);
        roomOfAnObject();
        roomOfCalls();
        Check.finish();
    }

    private static List<Class<?>> allClasses() {
        List<Class<?>> all = new ArrayList<>(List.of(TributeLists.class));
        all.addAll(Arrays.asList(TributeLists.class.getDeclaredClasses()));
        return all;
    }

    private static String shape(Method m) {
        StringBuilder s = new StringBuilder(m.getReturnType().getName()).append(' ').append(m.getName()).append('(');
        for (Class<?> p : m.getParameterTypes()) {
            s.append(s.charAt(s.length() - 1) == '(' ? "" : ",").append(p.getName());
        }
        return s.append(')').toString();
    }

    private static void openClass() {
        Check.sentence("public final class TributeLists");
        Class<?> c = TributeLists.class;
        Check.due("it is public", Modifier.isPublic(c.getModifiers()), true);
        Check.due("it is final", Modifier.isFinal(c.getModifiers()), true);
        Check.due("it is in no package", c.getPackageName().isEmpty(), true);
        Check.due("it extends nothing", c.getSuperclass() == Object.class, true);
        Check.due("interfaces that it implements", c.getInterfaces().length, 0);
        Check.due("types that it takes", c.getTypeParameters().length, 0);
    }

    private static void openMethods() {
        Check.sentence("the public face: the methods, and none beyond them");
        Set<String> seen = new TreeSet<>();
        for (Method m : TributeLists.class.getMethods()) {
            if (m.getDeclaringClass() != Object.class) {
                seen.add(shape(m));
                Check.due(m + " is of the object", Modifier.isStatic(m.getModifiers()), false);
                Check.due(m + " names exceptions", m.getExceptionTypes().length, 0);
            }
        }
        Check.due("the face " + seen, seen.equals(new TreeSet<>(Set.of(FACE))), true);
        for (Method m : TributeLists.class.getDeclaredMethods()) {
            boolean open = Modifier.isPublic(m.getModifiers());
            Check.due(m + " is public or private", open || Modifier.isPrivate(m.getModifiers()), true);
            Check.due(m + ", if private, bears no public name", !open && OPEN_NAMES.contains(m.getName()), false);
        }
    }

    private static void openConstant() throws Exception {
        Check.sentence("public static final int NONE = -1, and no other field");
        for (Field f : TributeLists.class.getDeclaredFields()) {
            boolean none = f.getName().equals("NONE");
            Check.due(f + " is private, but for NONE", Modifier.isPrivate(f.getModifiers()), !none);
        }
        Field none = TributeLists.class.getField("NONE");
        Check.due("public fields", TributeLists.class.getFields().length, 1);
        Check.due("NONE is static", Modifier.isStatic(none.getModifiers()), true);
        Check.due("NONE is final", Modifier.isFinal(none.getModifiers()), true);
        Check.due("NONE is an int", none.getType() == int.class, true);
        Check.due("NONE", none.getInt(null), -1);
    }

    private static void openConstructor() {
        Check.sentence("public TributeLists(), and no other");
        Constructor<?>[] made = TributeLists.class.getDeclaredConstructors();
        Check.due("constructors", made.length, 1);
        Check.due("it is public", Modifier.isPublic(made[0].getModifiers()), true);
        Check.due("its parameters", made[0].getParameterCount(), 0);
        Check.due("exceptions that it names", made[0].getExceptionTypes().length, 0);
    }

    private static void classesInside() throws Exception {
        Check.sentence("LANGUAGE.md 1, 2, 11: classes inside are static, not open, and some twelve at most");
        Class<?>[] inside = TributeLists.class.getDeclaredClasses();
        Check.due("classes with the outer one are at most twelve", inside.length + 1 <= 12, true);
        for (Class<?> c : inside) {
            int flags = c.getModifiers();
            Check.due(c + " is static", Modifier.isStatic(flags), true);
            Check.due(c + " is public or protected", Modifier.isPublic(flags) || Modifier.isProtected(flags), false);
        }
        // Local classes and nameless ones show as class files alone.
        Path files = Path.of(TributeLists.class.getProtectionDomain().getCodeSource().getLocation().toURI());
        File[] compiled = files.toFile().listFiles((dir, name) -> name.startsWith("TributeLists$") && name.endsWith(".class"));
        Check.due("class files beside the outer one", compiled == null ? -1 : compiled.length, inside.length);
    }

    private static void fieldsOf(Class<?> c) {
        Check.sentence("LANGUAGE.md 5, 11: fields of " + c.getName());
        int ownFields = 0;
        for (Field f : c.getDeclaredFields()) {
            if (Modifier.isStatic(f.getModifiers())) {
                Check.due(f + " is final", Modifier.isFinal(f.getModifiers()), true);
                Check.due(f + " is a constant", CONSTANTS.contains(f.getType()), true);
            } else {
                ownFields++;
            }
        }
        Check.due("at most twenty fields", ownFields <= 20, true);
    }

    private static void methodsOf(Class<?> c) {
        Check.sentence("LANGUAGE.md 1, 11: methods of " + c.getName());
        for (Method m : c.getDeclaredMethods()) {
            Check.due(m + " has at most seven parameters", m.getParameterCount() <= 7, true);
            if (c != TributeLists.class) {
                Check.due(m + " bears no public method's name", OPEN_NAMES.contains(m.getName()), false);
            }
        }
    }

    private static String code() throws Exception {
        String source = Files.readString(Path.of("src/main/java/TributeLists.java"));
        return source.replaceAll("(?s)/\\*.*?\\*/", " ").replaceAll("//[^\n]*", " ").replaceAll("\"[^\"\n]*\"|'[^'\n]*'", "0");
    }

    private static void words(String code) {
        Check.sentence("LANGUAGE.md 2, 3, 4, 6: words that the class does without");
        Set<String> used = new TreeSet<>(Arrays.asList(code.split("\\W+")));
        for (String word : FORBIDDEN) {
            Check.due("uses " + word, used.contains(word), false);
        }
        Check.due("uses ->", code.contains("->"), false);
        Check.due("uses ::", code.contains("::"), false);
    }

    private static void library(String code) {
        Check.sentence("LANGUAGE.md 4, 13: no library but what it lists");
        Set<String> known = new TreeSet<>(LIBRARY);
        for (Class<?> c : allClasses()) {
            known.add(c.getSimpleName());
        }
        String body = code.replaceAll("import java\\.util\\.(Arrays|List|ArrayList|Iterator);", "");
        Check.due("imports more", body.contains("import"), false);
        Matcher name = Pattern.compile("\\b[A-Z]\\w*[a-z]\\w*\\b").matcher(body);
        while (name.find()) {
            Check.due(name.group() + " is known", known.contains(name.group()), true);
        }
        Matcher call = Pattern.compile("\\b(?:Math|Arrays|System)\\.\\w+").matcher(body);
        while (call.find()) {
            Check.due(call.group() + " is known", known.contains(call.group()), true);
        }
        Check.due("names a package", body.contains("java."), false);
    }

    private static void shortMethods(String code) {
        Check.sentence("LANGUAGE.md 11: methods of some sixty lines");
        String[] lines = code.split("\n", -1);
        Pattern head = Pattern.compile("( {4}| {8})\\S.*\\) \\{");
        for (int k = 0; k < lines.length; k++) {
            Matcher m = head.matcher(lines[k]);
            if (m.matches()) {
                int end = k + 1;
                while (end < lines.length && !lines[end].equals(m.group(1) + "}")) {
                    end++;
                }
                Check.due("lines of" + lines[k] + " are at most 60", end - k + 1 <= 60, true);
            }
        }
    }

    /** A run's room is some 600,000 objects and arrays, 7.3 million fields and elements. */
    private static void roomOfAnObject() throws Exception {
        Check.sentence("LANGUAGE.md 12: what an object holds is small");
        int[] count = new int[2];
        countRoom(new TributeLists(), count);
        Check.due("its objects and arrays, " + count[0] + ", are at most 100", count[0] <= 100, true);
        Check.due("its fields and elements, " + count[1] + ", are at most 8000", count[1] <= 8000, true);
    }

    /** Adds up objects and arrays, and their fields and elements; none is held twice in this class. */
    private static void countRoom(Object o, int[] count) throws Exception {
        count[0]++;
        if (o.getClass().isArray()) {
            int length = Array.getLength(o);
            count[1] += length;
            for (int k = 0; k < length && !o.getClass().getComponentType().isPrimitive(); k++) {
                countRoom(Array.get(o, k), count);
            }
            return;
        }
        for (Field f : o.getClass().getDeclaredFields()) {
            if (!Modifier.isStatic(f.getModifiers())) {
                count[1]++;
                f.setAccessible(true);
                if (!f.getType().isPrimitive()) {
                    countRoom(f.get(o), count);
                }
            }
        }
    }

    private static void roomOfCalls() {
        Check.sentence("LANGUAGE.md 12: what calls make");
        if (ManagementFactory.getThreadMXBean() instanceof ThreadMXBean threads) {
            long self = Thread.currentThread().getId();
            long least = Long.MAX_VALUE;
            // The machine makes things of its own as it meets a call for the first time: the least is the class's.
            for (int k = 0; k < 5; k++) {
                TributeLists x = new TributeLists();
                long ahead = threads.getThreadAllocatedBytes(self);
                everyCall(x);
                least = Math.min(least, threads.getThreadAllocatedBytes(self) - ahead);
            }
            Check.due("bytes that every call together makes", least, 0);
        }
    }

    private static void everyCall(TributeLists x) {
        x.road(0, 1, 5);
        x.way(0, 1);
        x.weight(0, 7);
        x.carriers(0, 9);
        // "town 1:0 5,5 7;     ".
        x.feed(0x746F776E, 0x20313A30, 0x20352C35, 0x20373B20, 0x20202020);
        x.end(17);
        x.copy(0);
        x.fault(0);
        x.tells(0, 1, 0);
        x.owed(1, 0);
        x.quarrel(1, 0);
        x.quarrels();
        x.send(1, 0, 9);
        x.days(100);
        x.sending(0, 7);
        x.account(1, 0, 2);
        x.late(1);
        x.piece(3);
        for (int g = 0; g < 5; g++) {
            x.market(g, 1, g + 1, 2);
        }
        x.barter(0, 9999, 5);
        x.bartered(4);
        x.yields(1, 3);
        x.parted(100, 1);
        x.about(0);
    }
}
