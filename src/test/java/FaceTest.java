import java.lang.reflect.Constructor;
import java.lang.reflect.Field;
import java.lang.reflect.Method;
import java.lang.reflect.Modifier;
import java.util.Set;
import java.util.TreeSet;

/** The public face: just the constants, the constructor and the methods of the document. */
public final class FaceTest {
    private static final String[] METHODS = {
        "int set(int,int,int)", "int caller(int,int)", "int hear(int)", "int hush()", "int told(int,int)",
        "int feed(int)", "int text()", "int force(int)", "long weight(int)", "int who()", "long odds(int,int)",
        "long gain(int)", "int open()", "long peep(int,int)", "int tells()", "long guard(int)",
        "long home(int,int)", "int cards(int)", "int runs()", "int judge(int)", "int fits(int)", "int laws(int)",
        "long drawn(int,int)", "long often(int,int,int,int)", "int image()", "int back()", "int count(int)",
        "int sheet(int,int,int)", "int cell(int,int,int)", "int copy(int,int,int,int,int)",
        "int hears(int,int,int,int)", "int taken(int,int)"
    };

    private static int wrong = 0;

    private static void check(boolean holds, String what) {
        if (!holds) {
            wrong++;
            System.out.println("not so: " + what);
        }
    }

    private static String told(Method m) {
        StringBuilder b = new StringBuilder(m.getReturnType().getName()).append(' ').append(m.getName()).append('(');
        for (int i = 0; i < m.getParameterCount(); i++) {
            b.append(i == 0 ? "" : ",").append(m.getParameterTypes()[i].getName());
        }
        return b.append(')').toString();
    }

    private static void checkMethods() {
        Set<String> due = new TreeSet<>(Set.of(METHODS));
        Set<String> seen = new TreeSet<>();
        Set<String> open = new TreeSet<>();
        for (Method m : AtTheDoor.class.getDeclaredMethods()) {
            if (Modifier.isPublic(m.getModifiers())) {
                seen.add(told(m));
                open.add(m.getName());
            }
        }
        for (Method m : AtTheDoor.class.getDeclaredMethods()) {
            boolean isPublic = Modifier.isPublic(m.getModifiers());
            check(isPublic || Modifier.isPrivate(m.getModifiers()), m + " is public or private");
            check(isPublic || !open.contains(m.getName()), m + " has a name of its own");
        }
        check(seen.equals(due), "the methods are " + due + ", not " + seen);
    }

    private static void checkFields() throws ReflectiveOperationException {
        Set<String> seen = new TreeSet<>();
        for (Field f : AtTheDoor.class.getDeclaredFields()) {
            if (Modifier.isPublic(f.getModifiers())) {
                seen.add(f.getType().getName() + " " + f.getName() + " " + f.get(null));
            } else {
                check(Modifier.isPrivate(f.getModifiers()), f + " is private");
            }
        }
        Set<String> due = new TreeSet<>(Set.of("int NONE -1", "int BAD -2", "int STATE -3", "int FULL -4",
                "long NO -4611686018427387904"));
        check(seen.equals(due), "the constants are " + due + ", not " + seen);
    }

    private static void checkClasses() {
        check(Modifier.isFinal(AtTheDoor.class.getModifiers()), "the class is final");
        check(Modifier.isPublic(AtTheDoor.class.getModifiers()), "the class is public");
        Constructor<?>[] made = AtTheDoor.class.getDeclaredConstructors();
        check(made.length == 1 && Modifier.isPublic(made[0].getModifiers()) && made[0].getParameterCount() == 0,
                "one public constructor without parameters");
        check(AtTheDoor.class.getDeclaredClasses().length <= 11, "twelve classes at most");
        for (Class<?> c : AtTheDoor.class.getDeclaredClasses()) {
            check(Modifier.isStatic(c.getModifiers()), c + " is static");
            check(!Modifier.isPublic(c.getModifiers()) && !Modifier.isProtected(c.getModifiers()), c + " is hidden");
        }
    }

    public static void main(String[] args) throws ReflectiveOperationException {
        checkMethods();
        checkFields();
        checkClasses();
        System.out.println(wrong == 0 ? "the face is as due" : wrong + " faults of the face");
        if (wrong != 0) {
            System.exit(1);
        }
    }
}
