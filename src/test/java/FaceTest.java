import java.lang.reflect.Constructor;
import java.lang.reflect.Field;
import java.lang.reflect.Method;
import java.lang.reflect.Modifier;
import java.util.Set;
import java.util.TreeSet;

/** The public face is that of the document, and nothing else can be seen from outside. */
final class FaceTest {
    public static void main(String[] args) throws ReflectiveOperationException {
        Set<String> names = methods();
        hiddenMethods(names);
        fields();
        constructor();
        classesInside(names);
        Check.due("final", Modifier.isFinal(StreamTransport.class.getModifiers()), true);
        Check.due("public", Modifier.isPublic(StreamTransport.class.getModifiers()), true);
        Check.done();
    }

    /** The names of the methods that can be seen. */
    private static Set<String> methods() {
        Set<String> want = new TreeSet<>(Set.of(
            "int write(int, int, int, long) throws IllegalArgumentException, IllegalStateException",
            "int read(int, int) throws IllegalArgumentException, IllegalStateException, "
                + "UnsupportedOperationException, NoSuchElementException",
            "boolean finish(int, int)", "boolean reset(int, int)", "boolean close(int, int)", "int send(int)",
            "int deliver(int)", "boolean lose(int)", "boolean copy(int)"));
        want.addAll(Set.of("boolean spoil(int, int, int)", "int raw(int, long)", "int craft(int, int)",
            "int tick()", "int packets()", "int packet(int, int)", "int closed(int)", "int about(int, int)",
            "int stream(int, int, int)"));
        Set<String> got = new TreeSet<>();
        Set<String> names = new TreeSet<>();
        for (Method m : StreamTransport.class.getDeclaredMethods()) {
            if (!Modifier.isPrivate(m.getModifiers())) {
                String thrown = list(m.getExceptionTypes());
                got.add(m.getReturnType() + " " + m.getName() + "(" + list(m.getParameterTypes()) + ")"
                    + (thrown.isEmpty() ? "" : " throws " + thrown));
                names.add(m.getName());
                Check.due(m.getName() + " is public", Modifier.isPublic(m.getModifiers()), true);
                Check.due(m.getName() + " is static", Modifier.isStatic(m.getModifiers()), false);
            }
        }
        Check.due("methods: " + got, got.equals(want), true);
        return names;
    }

    /** "No private method bears the name of a public one." */
    private static void hiddenMethods(Set<String> names) {
        for (Method m : StreamTransport.class.getDeclaredMethods()) {
            boolean isHidden = Modifier.isPrivate(m.getModifiers());
            Check.due("private " + m.getName(), isHidden && names.contains(m.getName()), false);
        }
    }

    private static void fields() throws ReflectiveOperationException {
        for (Field f : StreamTransport.class.getDeclaredFields()) {
            Check.due("field " + f.getName(), Modifier.isPrivate(f.getModifiers()) || f.getName().equals("NONE"), true);
        }
        Field none = StreamTransport.class.getField("NONE");
        Check.due("NONE", none.getInt(null), -1);
        Check.due("NONE is an int", none.getType() == int.class, true);
        Check.due("NONE is a constant", Modifier.isStatic(none.getModifiers()) && Modifier.isFinal(none.getModifiers()), true);
    }

    private static void constructor() {
        Constructor<?>[] made = StreamTransport.class.getDeclaredConstructors();
        Check.due("constructors", made.length, 1);
        Check.due("constructor", list(made[0].getParameterTypes()).equals("int, int"), true);
        Check.due("constructor is public", Modifier.isPublic(made[0].getModifiers()), true);
        Check.due("constructor throws", made[0].getExceptionTypes().length, 0);
    }

    /** "the classes inside it, which are private or package-visible and static" */
    private static void classesInside(Set<String> names) {
        for (Class<?> inside : StreamTransport.class.getDeclaredClasses()) {
            int modifiers = inside.getModifiers();
            Check.due(inside + " is seen", Modifier.isPublic(modifiers) || Modifier.isProtected(modifiers), false);
            Check.due(inside + " is static", Modifier.isStatic(modifiers), true);
            for (Method m : inside.getDeclaredMethods()) {
                Check.due(inside + " has " + m.getName(), names.contains(m.getName()), false);
            }
        }
    }

    private static String list(Class<?>[] types) {
        StringBuilder text = new StringBuilder();
        for (Class<?> type : types) {
            text.append(text.length() > 0 ? ", " : "").append(type.getSimpleName());
        }
        return text.toString();
    }
}
