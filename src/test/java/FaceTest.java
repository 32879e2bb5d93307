import java.io.IOException;
import java.lang.reflect.Constructor;
import java.lang.reflect.Field;
import java.lang.reflect.Method;
import java.lang.reflect.Modifier;
import java.nio.file.Files;
import java.nio.file.Path;
import java.util.ArrayList;
import java.util.Arrays;
import java.util.HashSet;
import java.util.List;
import java.util.Set;
import java.util.regex.Matcher;
import java.util.regex.Pattern;

/**
 * The face that the document prints, and those rules of ../shared/LANGUAGE.md that a search can see. Its arguments: the
 * program's source, the document.
 */
public final class FaceTest {
    private static final Checks CHECKS = new Checks();

    public static void main(String[] args) throws IOException {
        String source = Files.readString(Path.of(args[0]));
        String document = Files.readString(Path.of(args[1]));
        face(document);
        hiddenMembers();
        words(withoutComments(source));
        innerClasses();
        CHECKS.close("FaceTest");
    }

    private static void face(String document) {
        int begin = document.indexOf("public final class QuiltGuild {");
        String[] lines = document.substring(begin, document.indexOf("```", begin)).split("\n");
        Set<String> due = new HashSet<>();
        for (String line : lines) {
            String told = line.trim();
            if (told.startsWith("public int") || told.startsWith("public boolean")) {
                due.add(told.replaceAll(" [a-z]+(?=[,)])", "").replace(";", ""));
            }
        }
        Set<String> got = new HashSet<>();
        for (Method method : QuiltGuild.class.getDeclaredMethods()) {
            if (Modifier.isPublic(method.getModifiers())) {
                got.add(told(method));
            }
        }
        CHECKS.eq("methods in the document", due.size(), 27);
        CHECKS.holds("the face is " + got + ", due is " + due, got.equals(due));
        Constructor<?>[] constructors = QuiltGuild.class.getDeclaredConstructors();
        CHECKS.eq("constructors", constructors.length, 1);
        CHECKS.holds("a public constructor", Modifier.isPublic(constructors[0].getModifiers()));
        CHECKS.eq("its parameters", constructors[0].getParameterCount(), 0);
        CHECKS.holds("a public final class",
            QuiltGuild.class.getModifiers() == (Modifier.PUBLIC | Modifier.FINAL));
    }

    private static String told(Method method) {
        List<String> parameters = new ArrayList<>();
        for (Class<?> type : method.getParameterTypes()) {
            parameters.add(type.getName());
        }
        List<String> exceptions = new ArrayList<>();
        for (Class<?> type : method.getExceptionTypes()) {
            exceptions.add(type.getSimpleName());
        }
        return "public " + method.getReturnType() + " " + method.getName() + "(" + String.join(", ", parameters) + ")"
            + (exceptions.isEmpty() ? "" : " throws " + String.join(", ", exceptions));
    }

    private static void hiddenMembers() {
        Set<String> publicNames = new HashSet<>();
        for (Method method : QuiltGuild.class.getDeclaredMethods()) {
            if (Modifier.isPublic(method.getModifiers())) {
                publicNames.add(method.getName());
            }
        }
        for (Method method : QuiltGuild.class.getDeclaredMethods()) {
            boolean isPrivate = Modifier.isPrivate(method.getModifiers());
            CHECKS.holds(method + " is public or private", isPrivate || Modifier.isPublic(method.getModifiers()));
            CHECKS.holds(method + " bears a name of its own", !isPrivate || !publicNames.contains(method.getName()));
        }
        for (Field field : QuiltGuild.class.getDeclaredFields()) {
            boolean isPrivate = Modifier.isPrivate(field.getModifiers());
            CHECKS.holds(field + " is private", isPrivate != field.getName().equals("NONE"));
        }
    }

    private static void innerClasses() {
        Class<?>[] classes = QuiltGuild.class.getDeclaredClasses();
        CHECKS.holds("at most twelve classes", classes.length < 12);
        for (Class<?> inside : classes) {
            CHECKS.holds(inside + " is static", Modifier.isStatic(inside.getModifiers()));
            CHECKS.holds(inside + " is not public", !Modifier.isPublic(inside.getModifiers()));
            long fields = Arrays.stream(inside.getDeclaredFields())
                .filter(field -> !Modifier.isStatic(field.getModifiers())).count();
            CHECKS.holds(inside + " has at most twenty fields", fields <= 20);
            for (Field field : inside.getDeclaredFields()) {
                CHECKS.holds(field + ": no static state",
                    !Modifier.isStatic(field.getModifiers()) || Modifier.isFinal(field.getModifiers()));
            }
            for (Method method : inside.getDeclaredMethods()) {
                CHECKS.holds(method + " has at most seven parameters", method.getParameterCount() <= 7);
            }
        }
    }

    private static String withoutComments(String source) {
        return source.replaceAll("(?s)/\\*.*?\\*/", "").replaceAll("//[^\n]*", "");
    }

    private static void words(String source) {
        String[] never = {"\\bimport\\b", "\\bpackage\\b", "->", "::", "\\bcatch\\b", "\\btry\\b", "\\bfinally\\b",
            "\\bsynchronized\\b", "\\bassert\\b", "Exact\\b", "\\binstanceof\\b", "\\bThrowable\\b", "\\bObject\\b",
            "\\bSystem\\b", "\\bString\\b", "\"", "@", "\\bhashCode\\b", "\\btoString\\b", "\\bequals\\b", "\\bvar\\b",
            "\\bfloat\\b", "\\bdouble\\b", "\\bArrayIndex", "\\bNullPointer", "\\bArithmetic", "\\bNegativeArray"};
        for (String word : never) {
            Matcher found = Pattern.compile(word).matcher(source);
            CHECKS.holds("the program does without " + word, !found.find());
        }
        Matcher thrown = Pattern.compile("\\bthrow\\b[^;]*").matcher(source);
        while (thrown.find()) {
            CHECKS.holds(thrown.group() + " is one of the document's",
                thrown.group().matches("throw new (IndexOutOfBounds|IllegalArgument|IllegalState)Exception\\(\\)"));
        }
        for (char c : source.toCharArray()) {
            if (c > 127) {
                CHECKS.fail("a sign outside of 1 to 127: " + c);
            }
        }
    }
}
