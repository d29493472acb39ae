import java.io.ByteArrayOutputStream;
import java.io.IOException;
import java.io.PrintStream;
import java.lang.reflect.Method;
import java.lang.reflect.Modifier;
import java.nio.file.Files;
import java.nio.file.Path;

/** README.md: its example stands here once more and does what its comments say, and every call is told of. */
final class ReadmeTest {
    public static void main(String[] args) throws IOException {
        String readme = Files.readString(Path.of("README.md"));
        String here = Files.readString(Path.of("src/test/java/ReadmeTest.java"));
        sameLines(readme, here);
        Check.due("printed", printed().equals("1\n2\n3\n4\n5\n1\n"), true);
        answers();
        for (Method m : StreamTransport.class.getDeclaredMethods()) {
            boolean isTold = readme.contains("`" + m.getName() + "(");
            Check.due("README.md tells of " + m.getName(), isTold || Modifier.isPrivate(m.getModifiers()), true);
        }
        Check.due("README.md says how to run the tests", readme.contains("    .ci/run\n"), true);
        Check.done();
    }

    /** The lines of the example, without their comments, are those of the method below. */
    private static void sameLines(String readme, String here) {
        String mark = "```java\n";
        int start = readme.indexOf(mark) + mark.length();
        String example = readme.substring(start, readme.indexOf("```", start));
        StringBuilder body = new StringBuilder();
        for (String line : example.split("\n")) {
            body.append("        ").append(line.replaceAll(" *//.*", "")).append('\n');
        }
        Check.due("the example has lines", body.length() > 300, true);
        Check.due("the example is the one that is run here", here.contains("example() {\n" + body + "    }\n"), true);
    }

    private static void example() {
        StreamTransport x = new StreamTransport(4, 8);
        x.write(0, 1, 5, 0x0504030201L);
        x.finish(0, 1);
        x.send(0);
        x.copy(0);
        x.deliver(0);
        x.deliver(0);
        while (x.stream(1, 1, 6) > 0) {
            System.out.println(x.read(1, 1));
        }
        x.send(1);
        x.deliver(0);
        System.out.println(x.stream(0, 1, 4));
    }

    private static String printed() {
        PrintStream out = System.out;
        ByteArrayOutputStream bytes = new ByteArrayOutputStream();
        System.setOut(new PrintStream(bytes));
        example();
        System.setOut(out);
        return bytes.toString().replace("\r", "");
    }

    /** What the comments of the example say that it does not print. */
    private static void answers() {
        StreamTransport x = new StreamTransport(4, 8);
        Check.due("8 for each stream", x.stream(0, 1, 3), 8);
        Check.due("16 for all together", x.about(0, 2), 16);
        Check.due("write", x.write(0, 1, 5, 0x0504030201L), 5);
        Check.due("finish", x.finish(0, 1), true);
        Check.due("send", x.send(0), 12);
        Check.due("copy", x.copy(0), true);
        Check.due("processed", x.deliver(0), 0);
        Check.due("dropped", x.deliver(0), 1);
        Check.drain(x, 1, 1, 5);
        Check.due("an ACK and a LIMIT", x.send(1), 10);
        Check.due("delivered", x.deliver(0), 0);
        Check.due("a new limit for stream 1", x.stream(0, 1, 3), 13);
    }
}
