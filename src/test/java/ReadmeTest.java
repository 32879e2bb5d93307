import java.io.IOException;
import java.lang.reflect.Method;
import java.lang.reflect.Modifier;
import java.net.URL;
import java.net.URLClassLoader;
import java.nio.file.Files;
import java.nio.file.Path;
import java.util.ArrayList;
import java.util.List;
import java.util.function.Consumer;
import java.util.regex.Matcher;
import java.util.regex.Pattern;

/**
 * What README.md tells of the class: its face must be the document's, and each answer in its example the one that the
 * class gives. The example is compiled as it stands there, but that the answers are collected. Its arguments: the
 * program's source (which it doesn't need), the document, README.md.
 */
public final class ReadmeTest {
    private static final Checks CHECKS = new Checks();
    private static final String CLASS_NAME = "ReadmeExample";
    /** A call at the begin of a line, and behind it its answer; what stands behind a colon explains it. */
    private static final Pattern ASKED = Pattern.compile("(guild\\.\\w+\\([^;]*\\));\\s+// ([^:]+)(:.*)?");

    public static void main(String[] args)
            throws IOException, InterruptedException, ReflectiveOperationException {
        String document = Files.readString(Path.of(args[1]));
        String readme = Files.readString(Path.of(args[2]));
        String face = block(document, "public final class QuiltGuild {");
        CHECKS.holds("the face in README.md is the document's",
            !face.isEmpty() && face.equals(block(readme, "public final class QuiltGuild {")));
        String example = block(readme, "QuiltGuild guild = ");
        everyCallIsShown(example, readme);
        answers(example);
        CHECKS.close("ReadmeTest");
    }

    /** The block of code with these words in it. */
    private static String block(String page, String words) {
        int found = page.indexOf(words);
        int begin = page.lastIndexOf("```java\n", found);
        int end = page.indexOf("```", found);
        return found < 0 || begin < 0 || end < 0 ? "" : page.substring(begin, end);
    }

    private static void everyCallIsShown(String example, String readme) {
        for (Method method : QuiltGuild.class.getDeclaredMethods()) {
            if (Modifier.isPublic(method.getModifiers())) {
                String name = method.getName();
                CHECKS.holds("the example asks " + name, example.contains("guild." + name + "("));
                CHECKS.holds("a row of the table tells " + name, readme.contains("\n| `" + name + "("));
            }
        }
    }

    private static void answers(String example)
            throws IOException, InterruptedException, ReflectiveOperationException {
        List<String> calls = new ArrayList<>();
        List<String> due = new ArrayList<>();
        StringBuilder lines = new StringBuilder();
        for (String line : example.split("\n")) {
            Matcher asked = ASKED.matcher(line);
            if (asked.matches()) {
                calls.add(asked.group(1));
                due.add(asked.group(2).trim().replace("NONE", "" + QuiltGuild.NONE));
                lines.append("try { answers.accept(\"\" + ").append(asked.group(1)).append("); }\n")
                    .append("catch (RuntimeException e) { answers.accept(\"throws \" ")
                    .append("+ e.getClass().getSimpleName()); }\n");
            } else if (!line.startsWith("```")) {
                CHECKS.holds("a call without its answer: " + line, !line.startsWith("guild."));
                lines.append(line).append("\n");
            }
        }
        List<String> got = run(lines.toString());
        CHECKS.eq("answers of the example", got.size(), due.size());
        for (int i = 0; i < got.size() && i < due.size(); i++) {
            CHECKS.holds("README.md: " + calls.get(i) + " answered " + got.get(i) + ", told is " + due.get(i),
                got.get(i).equals(due.get(i)));
        }
    }

    private static List<String> run(String lines)
            throws IOException, InterruptedException, ReflectiveOperationException {
        List<String> got = new ArrayList<>();
        Path room = Files.createTempDirectory("readme");
        Path source = room.resolve(CLASS_NAME + ".java");
        try {
            Files.writeString(source, "public final class " + CLASS_NAME + " {\n"
                + "public static void run(java.util.function.Consumer<String> answers) {\n" + lines + "}\n}\n");
            String path = System.getProperty("java.class.path");
            int status = new ProcessBuilder("javac", "-cp", path, "-d", room.toString(), source.toString())
                .inheritIO().start().waitFor();
            CHECKS.eq("compiling the example", status, 0);
            if (status == 0) {
                Consumer<String> answers = got::add;
                try (URLClassLoader loader = new URLClassLoader(new URL[] {room.toUri().toURL()})) {
                    loader.loadClass(CLASS_NAME).getMethod("run", Consumer.class).invoke(null, answers);
                }
            }
        } finally {
            Files.deleteIfExists(room.resolve(CLASS_NAME + ".class"));
            Files.deleteIfExists(source);
            Files.deleteIfExists(room);
        }
        return got;
    }
}
