import java.lang.reflect.Constructor;
import java.lang.reflect.Field;
import java.lang.reflect.Method;
import java.lang.reflect.Modifier;
import java.util.Arrays;
import java.util.Set;
import java.util.TreeSet;
import java.util.stream.Collectors;

/** The public face, as the document and rule 1 of LANGUAGE.md give it. */
public final class FaceTest {
    private static final String ARGUMENT = "IllegalArgumentException";
    private static final String STATE = ARGUMENT + ",IllegalStateException";
    private static final String INDEX = ARGUMENT + ",IndexOutOfBoundsException";

    public static void main(String[] args) {
        Due.same("the class", Modifier.PUBLIC | Modifier.FINAL, AccessDesk.class.getModifiers());
        methods();
        othersArePrivate();
        nestedClasses();
        Due.end();
    }

    private static void methods() {
        Set<String> due = new TreeSet<>(Set.of(
                "void senior(int,int) " + STATE,
                "void unsenior(int,int) " + STATE,
                "void assign(int,int) " + STATE,
                "void withdraw(int,int) " + STATE,
                "int bound(boolean,int,int) " + STATE,
                "void rank(int,int,boolean) " + ARGUMENT,
                "void open(int,int) " + STATE,
                "void close(int) " + STATE,
                "void activate(int,int,boolean) " + STATE,
                "int holds(int) " + ARGUMENT,
                "int authorized(int) " + ARGUMENT,
                "void object(int,int,int,boolean) " + ARGUMENT,
                "int feed(long,int) " + STATE,
                "int policy() " + ARGUMENT,
                "int place() ",
                "int decide(int,int,int,int) " + STATE,
                "int request(int,int,int,int) " + STATE + ",UnsupportedOperationException",
                "int entry(int,int) " + INDEX,
                "void touch(int,int,int) " + INDEX,
                "int audit() "));
        Set<String> got = new TreeSet<>();
        for (Method method : AccessDesk.class.getDeclaredMethods()) {
            if (Modifier.isPublic(method.getModifiers())) {
                Due.same(method.getName() + " is static", false, Modifier.isStatic(method.getModifiers()));
                got.add(method.getReturnType() + " " + method.getName()
                        + "(" + names(method.getParameterTypes()) + ") " + names(method.getExceptionTypes()));
            }
        }
        Due.same("the public methods", due, got);
    }

    private static String names(Class<?>[] types) {
        return Arrays.stream(types).map(Class::getSimpleName).collect(Collectors.joining(","));
    }

    private static void othersArePrivate() {
        Constructor<?>[] constructors = AccessDesk.class.getDeclaredConstructors();
        Due.same("constructors", 1, constructors.length);
        Due.same("the constructor", Modifier.PUBLIC, constructors[0].getModifiers());
        Due.same("its parameters", 0, constructors[0].getParameterCount());
        Set<String> face = new TreeSet<>();
        for (Method method : AccessDesk.class.getDeclaredMethods()) {
            if (Modifier.isPublic(method.getModifiers())) {
                face.add(method.getName());
            }
        }
        for (Method method : AccessDesk.class.getDeclaredMethods()) {
            if (!Modifier.isPublic(method.getModifiers())) {
                Due.same(method.getName() + " is private", true, Modifier.isPrivate(method.getModifiers()));
                Due.same(method.getName() + " bears a public name", false, face.contains(method.getName()));
            }
        }
        for (Field field : AccessDesk.class.getDeclaredFields()) {
            Due.same(field.getName() + " is private", true, Modifier.isPrivate(field.getModifiers()));
        }
    }

    private static void nestedClasses() {
        for (Class<?> nested : AccessDesk.class.getDeclaredClasses()) {
            int modifiers = nested.getModifiers();
            Due.same(nested + " is static", true, Modifier.isStatic(modifiers));
            Due.same(nested + " is open to others", false,
                    Modifier.isPublic(modifiers) || Modifier.isProtected(modifiers));
            for (Field field : nested.getDeclaredFields()) {
                boolean isFree = Modifier.isStatic(field.getModifiers())
                        && !Modifier.isFinal(field.getModifiers());
                Due.same(nested + "." + field.getName() + " is static and not final", false, isFree);
            }
        }
    }
}
