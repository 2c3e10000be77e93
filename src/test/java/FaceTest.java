import java.lang.reflect.Constructor;
import java.lang.reflect.Field;
import java.lang.reflect.Method;
import java.lang.reflect.Modifier;
import java.util.Arrays;
import java.util.HashSet;
import java.util.Set;
import java.util.TreeSet;

/** The class has the document's face and nothing else that can be seen (LANGUAGE.md, rule 1). */
final class FaceTest {
    private static final String NSE = "java.util.NoSuchElementException";
    private static final String IAE = "java.lang.IllegalArgumentException";
    private static final String ISE = "java.lang.IllegalStateException";
    private static final String IOB = "java.lang.IndexOutOfBoundsException";
    private static final String[] FACE = {
        "void pool(int,int,int,int) " + NSE + " " + IAE,
        "void join(int,int) " + NSE + " " + ISE,
        "void off(int) " + NSE + " " + ISE,
        "void leave(int) " + NSE + " " + ISE,
        "void strange(int,boolean) " + IAE,
        "void down(boolean)",
        "int tick()",
        "int packets()",
        "int packet(int,int) " + NSE + " " + IOB,
        "int carry(int) " + NSE,
        "void twice(int) " + NSE,
        "void drop(int) " + NSE,
        "int run(int) " + IAE,
        "boolean type(long,int)",
        "int told(int) " + IOB + " " + IAE,
        "void inject(int) " + IAE,
        "int client(int,int) " + NSE + " " + IOB,
        "int record(int,int) " + IOB,
        "int count(int) " + IOB,
    };

    public static void main(String[] args) {
        Due due = new Due("FaceTest");
        due.is("public", Modifier.isPublic(LeaseNet.class.getModifiers()), true);
        due.is("final", Modifier.isFinal(LeaseNet.class.getModifiers()), true);
        Set<String> names = new HashSet<>();
        Set<String> seen = new TreeSet<>();
        for (Method m : LeaseNet.class.getDeclaredMethods()) {
            if (!Modifier.isPrivate(m.getModifiers())) {
                seen.add(describe(m));
                names.add(m.getName());
            }
        }
        for (String want : FACE) {
            due.is("has " + want, seen.remove(want), true);
        }
        due.is("methods beyond the face " + seen, seen.size(), 0);
        for (Field f : LeaseNet.class.getDeclaredFields()) {
            due.is("private " + f.getName(), Modifier.isPrivate(f.getModifiers()), true);
        }
        Constructor<?>[] made = LeaseNet.class.getDeclaredConstructors();
        due.is("constructors", made.length, 1);
        due.is("a public constructor", Modifier.isPublic(made[0].getModifiers()), true);
        noNameTwice(due, LeaseNet.class, names);
        for (Class<?> inside : LeaseNet.class.getDeclaredClasses()) {
            due.is("static " + inside.getName(), Modifier.isStatic(inside.getModifiers()), true);
            noNameTwice(due, inside, names);
            due.is("fields of " + inside.getName(), inside.getDeclaredFields().length <= 20, true);
        }
        due.is("classes inside", LeaseNet.class.getDeclaredClasses().length <= 12, true);
        due.end();
    }

    private static String describe(Method m) {
        StringBuilder s = new StringBuilder();
        s.append(m.getReturnType()).append(' ').append(m.getName()).append('(');
        String comma = "";
        for (Class<?> p : m.getParameterTypes()) {
            s.append(comma).append(p);
            comma = ",";
        }
        s.append(')');
        for (Class<?> e : m.getExceptionTypes()) {
            s.append(' ').append(e.getName());
        }
        return s.toString();
    }

    private static void noNameTwice(Due due, Class<?> where, Set<String> names) {
        boolean face = where == LeaseNet.class;
        Arrays.stream(where.getDeclaredMethods())
                .filter(m -> !face || Modifier.isPrivate(m.getModifiers()))
                .map(m -> m.getName())
                .forEach(name -> due.is("own name " + where.getName() + "." + name, names.contains(name), false));
    }
}
