import java.io.IOException;
import java.lang.reflect.Constructor;
import java.lang.reflect.Field;
import java.lang.reflect.Method;
import java.lang.reflect.Modifier;
import java.nio.file.Files;
import java.nio.file.Path;
import java.util.ArrayList;
import java.util.List;
import java.util.Set;
import java.util.regex.Matcher;
import java.util.regex.Pattern;

/** The rules of LANGUAGE.md that can be seen in the text of the class, or by reflection. */
final class FormTest {
    private static final String FILE = "src/main/java/StreamTransport.java";

    public static void main(String[] args) throws IOException {
        String code = withoutComments(Files.readString(Path.of(FILE)));
        imports(code);
        words(code);
        library(code);
        thrown(code);
        lengths(code);
        List<Class<?>> classes = new ArrayList<>(List.of(StreamTransport.class));
        classes.addAll(List.of(StreamTransport.class.getDeclaredClasses()));
        Check.due("rule 11: " + classes.size() + " classes are at most 12", classes.size() <= 12, true);
        for (Class<?> one : classes) {
            fields(one);
            parameters(one);
        }
        Check.done();
    }

    private static String withoutComments(String text) {
        return text.replaceAll("(?s)/\\*.*?\\*/", "").replaceAll("//[^\n]*", "");
    }

    /** "without a package line", and what is imported is what rules 4 and 6 list. */
    private static void imports(String code) {
        Set<String> may = Set.of("java.util.ArrayList", "java.util.Arrays", "java.util.Iterator", "java.util.List",
            "java.util.NoSuchElementException");
        Check.due("a package line", code.contains("package "), false);
        Matcher m = Pattern.compile("import ([^;]*);").matcher(code);
        while (m.find()) {
            Check.due("rule 4: import " + m.group(1), may.contains(m.group(1)), true);
        }
    }

    /** Rules 2, 3, 5, 6, 10 and 13: what stands nowhere in the class. */
    private static void words(String code) {
        String[] words = {"->", "::", "\\bfinally\\b", "\\bsynchronized\\b", "\\bassert\\b", "\\bvolatile\\b",
            "\\bThread\\b", "\\bRandom\\b", "\\brandom\\b", "\\bcurrentTimeMillis\\b", "\\bnanoTime\\b", "\\bgetenv\\b",
            "\\bstatic\\s*\\{", "\\bhashCode\\b", "\\bequals\\b", "\\btoString\\b", "\\bfinalize\\b", "\\bgetMessage\\b",
            "\\bdouble\\b", "\\bfloat\\b", "\"", "Exact\\("};
        for (String word : words) {
            Check.due("the class has " + word, Pattern.compile(word).matcher(code).find(), false);
        }
    }

    /** Rule 4: the functions of the library that are called. */
    private static void library(String code) {
        Set<String> may = Set.of("Math.max", "Math.min", "Math.abs", "Math.floorDiv", "Math.floorMod",
            "Arrays.fill", "Arrays.copyOf", "Arrays.copyOfRange", "System.arraycopy", "Integer.bitCount");
        Matcher m = Pattern.compile("\\b([A-Z][a-z]\\w*\\.[a-z]\\w*)\\(").matcher(code);
        while (m.find()) {
            Check.due("rule 4: " + m.group(1), may.contains(m.group(1)), true);
        }
    }

    /** Rule 6: "throw new E() or throw new E("a written text")" */
    private static void thrown(String code) {
        Matcher m = Pattern.compile("\\bthrow\\s+([^;]*);").matcher(code);
        Pattern may = Pattern.compile("new (IllegalState|IllegalArgument|UnsupportedOperation|NoSuchElement)Exception\\(\\)");
        while (m.find()) {
            Check.due("rule 6: throw " + m.group(1), may.matcher(m.group(1)).matches(), true);
        }
    }

    /** Rule 11: "Methods stay short (some sixty lines)": from a line that opens one to the brace below it. */
    private static void lengths(String code) {
        String[] lines = code.split("\n");
        Pattern opens = Pattern.compile("^( {4}| {8})[^ ].*\\).*\\{$");
        for (int i = 0; i < lines.length; i++) {
            Matcher m = opens.matcher(lines[i]);
            if (m.matches()) {
                int last = i;
                while (last < lines.length && !lines[last].equals(m.group(1) + "}")) {
                    last++;
                }
                Check.due("rule 11: lines of " + lines[i].trim(), last - i + 1 <= 60, true);
            }
        }
    }

    /** Rule 5: "Static fields are final"; rule 11: "a class some twenty fields beside its constants". */
    private static void fields(Class<?> of) {
        int count = 0;
        for (Field f : of.getDeclaredFields()) {
            boolean isStatic = Modifier.isStatic(f.getModifiers());
            Check.due("rule 5: " + f, isStatic && !Modifier.isFinal(f.getModifiers()), false);
            Check.due("rule 5: the type of " + f, isStatic && !f.getType().isPrimitive(), false);
            count += isStatic ? 0 : 1;
        }
        Check.due("rule 11: fields of " + of, count <= 20, true);
    }

    /** Rule 11: "A method takes at most seven parameters." */
    private static void parameters(Class<?> of) {
        for (Method m : of.getDeclaredMethods()) {
            Check.due("rule 11: " + m, m.getParameterCount() <= 7, true);
        }
        for (Constructor<?> c : of.getDeclaredConstructors()) {
            Check.due("rule 11: " + c, c.getParameterCount() <= 7, true);
        }
    }
}
