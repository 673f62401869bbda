import java.lang.reflect.Constructor;
import java.lang.reflect.Field;
import java.lang.reflect.Member;
import java.lang.reflect.Method;
import java.lang.reflect.Modifier;
import java.nio.file.Files;
import java.nio.file.Path;
import java.util.ArrayList;
import java.util.List;
import java.util.TreeSet;

/** The public face is that of the document, word for word, and nothing else is open to other classes. */
public final class FaceTest {
    public static void main(String[] args) throws Exception {
        Check.same("the face", String.join("\n", faceOfClass()), String.join("\n", faceOfDocument()));
        privateNames();
        library();
        Check.end();
    }

    private static TreeSet<String> faceOfDocument() throws Exception {
        TreeSet<String> face = new TreeSet<>();
        for (String line : Files.readAllLines(Path.of("../shared/DOC.md"))) {
            String text = line.trim();
            if (text.startsWith("public ") && !text.startsWith("public final class")) {
                face.add(text.replaceAll("(int|boolean) [a-z]+([,)])", "$1$2"));
            }
        }
        return face;
    }

    private static TreeSet<String> faceOfClass() throws Exception {
        TreeSet<String> face = new TreeSet<>();
        for (Field field : GranaryWatch.class.getDeclaredFields()) {
            if (!Modifier.isPrivate(field.getModifiers())) {
                face.add(Modifier.toString(field.getModifiers()) + " int " + field.getName() + " = " + field.getInt(null) + ";");
            }
        }
        for (Constructor<?> constructor : GranaryWatch.class.getDeclaredConstructors()) {
            face.add(Modifier.toString(constructor.getModifiers()) + " GranaryWatch();");
            Check.same("parameters of the constructor", constructor.getParameterCount(), 0);
        }
        for (Method method : GranaryWatch.class.getDeclaredMethods()) {
            if (isOpenMember(method)) {
                face.add(lineOf(method));
            }
        }
        return face;
    }

    private static boolean isOpenMember(Member member) {
        return !Modifier.isPrivate(member.getModifiers()) && !member.isSynthetic();
    }

    private static String lineOf(Method method) {
        String line = Modifier.toString(method.getModifiers()) + " " + method.getReturnType() + " " + method.getName()
                + "(" + names(method.getParameterTypes()) + ")";
        String exceptions = names(method.getExceptionTypes());
        return line + (exceptions.isEmpty() ? "" : " throws " + exceptions) + ";";
    }

    private static String names(Class<?>[] types) {
        List<String> names = new ArrayList<>();
        for (Class<?> type : types) {
            names.add(type.getSimpleName());
        }
        return String.join(", ", names);
    }

    private static void privateNames() {
        TreeSet<String> open = new TreeSet<>();
        for (Method method : GranaryWatch.class.getDeclaredMethods()) {
            if (isOpenMember(method)) {
                Check.same("only one method is named " + method.getName(), open.add(method.getName()), true);
            }
        }
        for (Class<?> inner : GranaryWatch.class.getDeclaredClasses()) {
            Check.same(inner.getName() + " is static", Modifier.isStatic(inner.getModifiers()), true);
            for (Method method : inner.getDeclaredMethods()) {
                Check.same("the face has " + method.getName() + " too", open.contains(method.getName()), false);
            }
        }
        for (Method method : GranaryWatch.class.getDeclaredMethods()) {
            if (!isOpenMember(method) && !method.isSynthetic()) {
                Check.same("the face has " + method.getName() + " too", open.contains(method.getName()), false);
            }
        }
    }

    /** What LANGUAGE.md leaves out and a word in the source would show. */
    private static void library() throws Exception {
        String source = Files.readString(Path.of("src/main/java/GranaryWatch.java"));
        String[] words = {"->", "::", "catch", "finally", "assert", "synchronized", "Exact(", "getMessage", "package ",
            "java.io", "java.nio", "java.time", "Random", "Thread", "System.out", "System.nano", "System.current"};
        for (String word : words) {
            Check.same("the source has " + word, source.contains(word), false);
        }
        Check.same("imports", source.split("\nimport |^import ").length - 1, 1);
        Check.same("characters above 126", source.matches("[\\x00-\\x7e]*"), true);
    }
}
