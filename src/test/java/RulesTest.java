import java.lang.reflect.Constructor;
import java.lang.reflect.Field;
import java.lang.reflect.Method;
import java.lang.reflect.Modifier;
import java.nio.file.Files;
import java.nio.file.Path;
import java.util.Arrays;
import java.util.Set;
import java.util.TreeSet;

/** The document's face, and rules of LANGUAGE.md that a machine can look at. */
public final class RulesTest {
    private static final String[] FACE = {"boolean road(int,int,int)", "int way(int,int)", "boolean weight(int,int)",
        "int carriers(int,int)", "int feed(int,int,int,int,int)", "int end(int)", "int copy(int)", "int fault(int)",
        "int tells(int,int,int)", "int owed(int,int)", "int quarrel(int,int)", "int quarrels()", "int send(int,int,int)",
        "int sending(int,int)", "int days(int)", "int account(int,int,int)", "long late(int)", "int piece(int)",
        "int market(int,int,int,int)", "int barter(int,int,int)", "int bartered(int)", "boolean yields(int,int)",
        "int parted(int,int)", "int about(int)"};

    private static final String[] FORBIDDEN = {"throw", "throws", "try", "catch", "synchronized", "assert", "native",
        "protected", "volatile", "transient", "double", "float", "var", "package"};

    public static void main(String[] args) throws Exception {
        face();
        nested();
        words();
        Check.finish();
    }

    private static String shape(Method m) {
        StringBuilder s = new StringBuilder(m.getReturnType().getName()).append(' ').append(m.getName()).append('(');
        for (Class<?> p : m.getParameterTypes()) {
            s.append(s.charAt(s.length() - 1) == '(' ? "" : ",").append(p.getName());
        }
        return s.append(')').toString();
    }

    private static void face() {
        Set<String> seen = new TreeSet<>();
        for (Method m : TributeLists.class.getDeclaredMethods()) {
            boolean open = Modifier.isPublic(m.getModifiers());
            Check.due(m + " is public or private", open || Modifier.isPrivate(m.getModifiers()), true);
            if (open) {
                seen.add(shape(m));
            }
        }
        Check.due("the face " + seen, seen.equals(new TreeSet<>(Set.of(FACE))), true);
        for (Field f : TributeLists.class.getDeclaredFields()) {
            boolean none = f.getName().equals("NONE");
            Check.due(f + " is private, but for NONE", none ? Modifier.isPublic(f.getModifiers()) : Modifier.isPrivate(f.getModifiers()), true);
        }
        Constructor<?>[] made = TributeLists.class.getDeclaredConstructors();
        Check.due("constructors", made.length, 1);
        Check.due("it is public", Modifier.isPublic(made[0].getModifiers()), true);
        Check.due("the class is final", Modifier.isFinal(TributeLists.class.getModifiers()), true);
    }

    private static void nested() {
        Set<String> open = new TreeSet<>();
        for (String f : FACE) {
            open.add(f.substring(f.indexOf(' ') + 1, f.indexOf('(')));
        }
        Class<?>[] inside = TributeLists.class.getDeclaredClasses();
        Check.due("at most twelve classes", inside.length < 12, true);
        for (Class<?> c : inside) {
            Check.due(c + " is static", Modifier.isStatic(c.getModifiers()), true);
            int fields = 0;
            for (Field f : c.getDeclaredFields()) {
                boolean fixed = Modifier.isStatic(f.getModifiers());
                Check.due(f + ", if static, is final", !fixed || Modifier.isFinal(f.getModifiers()), true);
                fields += fixed ? 0 : 1;
            }
            Check.due(c + " has at most twenty fields", fields <= 20, true);
            for (Method m : c.getDeclaredMethods()) {
                Check.due(m + " bears no public method's name", open.contains(m.getName()), false);
                Check.due(m + " has at most seven parameters", m.getParameterCount() <= 7, true);
            }
        }
    }

    private static void words() throws Exception {
        String source = Files.readString(Path.of("src/main/java/TributeLists.java"));
        String code = source.replaceAll("(?s)/\\*.*?\\*/", " ").replaceAll("//[^\n]*", " ");
        Set<String> used = new TreeSet<>(Arrays.asList(code.split("[^A-Za-z]+")));
        for (String word : FORBIDDEN) {
            Check.due("uses " + word, used.contains(word), false);
        }
        Check.due("uses ->", code.contains("->"), false);
        Check.due("uses ::", code.contains("::"), false);
        Check.due("uses Exact", code.contains("Exact("), false);
        String imports = code.replaceAll("(?s)import java\\.util\\.(Arrays|List|ArrayList|Iterator);", "");
        Check.due("imports more than the rules list", imports.contains("import"), false);
    }
}
