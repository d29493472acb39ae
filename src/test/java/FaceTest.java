import java.lang.reflect.Constructor;
import java.lang.reflect.Field;
import java.lang.reflect.Method;
import java.lang.reflect.Modifier;
import java.util.Set;
import java.util.TreeSet;

/** The public face is that of the document, and nothing else can be seen from outside. */
final class FaceTest {
    public static void main(String[] args) {
        Set<String> want = new TreeSet<>(Set.of(
            "int write(int, int, int, long)", "boolean finish(int, int)", "boolean reset(int, int)",
            "int read(int, int)", "boolean close(int, int)", "int send(int)", "int deliver(int)",
            "boolean lose(int)", "boolean copy(int)"));
        want.addAll(Set.of("boolean spoil(int, int, int)", "int raw(int, long)", "int craft(int, int)",
            "int tick()", "int packets()", "int packet(int, int)", "int closed(int)", "int about(int, int)",
            "int stream(int, int, int)"));
        Set<String> got = new TreeSet<>();
        Set<String> names = new TreeSet<>();
        for (Method m : StreamTransport.class.getDeclaredMethods()) {
            if (!Modifier.isPrivate(m.getModifiers())) {
                got.add(m.getReturnType() + " " + m.getName() + parameters(m.getParameterTypes()));
                names.add(m.getName());
            }
        }
        Check.due("methods: " + got, got.equals(want), true);
        for (Method m : StreamTransport.class.getDeclaredMethods()) {
            boolean isHidden = Modifier.isPrivate(m.getModifiers());
            Check.due("private " + m.getName(), isHidden && names.contains(m.getName()), false);
        }
        for (Field f : StreamTransport.class.getDeclaredFields()) {
            Check.due("field " + f.getName(), Modifier.isPrivate(f.getModifiers()) || f.getName().equals("NONE"), true);
        }
        Constructor<?>[] made = StreamTransport.class.getDeclaredConstructors();
        Check.due("constructors", made.length, 1);
        Check.due("constructor", parameters(made[0].getParameterTypes()).equals("(int, int)"), true);
        Check.due("final", Modifier.isFinal(StreamTransport.class.getModifiers()), true);
        Check.done();
    }

    private static String parameters(Class<?>[] types) {
        StringBuilder text = new StringBuilder("(");
        for (Class<?> type : types) {
            text.append(text.length() > 1 ? ", " : "").append(type);
        }
        return text.append(")").toString();
    }
}
