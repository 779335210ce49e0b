import java.io.IOException;
import java.lang.reflect.Constructor;
import java.lang.reflect.Field;
import java.lang.reflect.Method;
import java.lang.reflect.Modifier;
import java.nio.file.Files;
import java.nio.file.Path;
import java.util.Arrays;
import java.util.Set;
import java.util.TreeSet;
import java.util.regex.Matcher;
import java.util.regex.Pattern;

/** The class's face, and those rules of LANGUAGE.md that can be seen from members and words. */
public final class FaceTest {
    private static final String[] METHODS = {
        "int variable() IllegalStateException",
        "int sign(int,int,int,int,int) IllegalArgumentException IllegalStateException",
        "boolean join(int,int) IllegalArgumentException",
        "boolean could(int,int) IllegalArgumentException",
        "int mark() IllegalStateException",
        "int undo() IllegalStateException",
        "boolean same(int,int) IllegalArgumentException",
        "boolean isFinite(int) IllegalArgumentException",
        "long size(int) IllegalArgumentException",
        "int depth(int) IllegalArgumentException",
        "int variables(int) IllegalArgumentException",
        "int parts(int) IllegalArgumentException",
        "boolean instance(int,int) IllegalArgumentException",
        "boolean variant(int,int) IllegalArgumentException",
        "int common(int,int,int) IllegalArgumentException",
        "int text(int) IllegalArgumentException",
        "long out(int) NoSuchElementException",
        "int look(int) IllegalArgumentException",
    };

    private static final String NOT_ALLOWED =
        "\\b(try|catch|finally|synchronized|assert|protected|var|package|System\\.(?!arraycopy)\\w+|\\w+Exact)\\b|->|::";

    private FaceTest() {
    }

    public static void main(String[] args) throws IOException {
        members();
        inside();
        words();
        Check.end();
    }

    private static void members() {
        Class<?> face = TermForge.class;
        Check.due("public and final", Modifier.isPublic(face.getModifiers()) && Modifier.isFinal(face.getModifiers()), true);
        Set<String> seen = new TreeSet<>();
        for (Method method : face.getDeclaredMethods()) {
            if (!Modifier.isPrivate(method.getModifiers())) {
                Check.due(method + " is public", Modifier.isPublic(method.getModifiers()), true);
                seen.add(described(method));
            }
        }
        Check.due("methods", seen.toString(), new TreeSet<>(Arrays.asList(METHODS)).toString());
        Constructor<?>[] constructors = face.getDeclaredConstructors();
        Check.due("constructors", constructors.length, 1);
        Check.due("constructor", constructors[0].toString(), "public TermForge()");
        for (Field field : face.getDeclaredFields()) {
            Check.due(field + " is private", Modifier.isPrivate(field.getModifiers()), true);
            boolean changes = Modifier.isStatic(field.getModifiers()) && !Modifier.isFinal(field.getModifiers());
            Check.due(field + " is static and changes", changes, false);
        }
    }

    private static String described(Method method) {
        StringBuilder text = new StringBuilder();
        text.append(method.getReturnType().getSimpleName()).append(' ').append(method.getName()).append('(');
        String between = "";
        for (Class<?> type : method.getParameterTypes()) {
            text.append(between).append(type.getSimpleName());
            between = ",";
        }
        text.append(')');
        for (Class<?> type : method.getExceptionTypes()) {
            text.append(' ').append(type.getSimpleName());
        }
        return text.toString();
    }

    private static void inside() {
        Set<String> names = new TreeSet<>();
        for (String method : METHODS) {
            names.add(method.substring(method.indexOf(' ') + 1, method.indexOf('(')));
        }
        Class<?>[] classes = TermForge.class.getDeclaredClasses();
        Check.due("at most twelve classes", classes.length + 1 <= 12, true);
        for (Class<?> own : classes) {
            Check.due(own + " is static", Modifier.isStatic(own.getModifiers()), true);
            int fields = 0;
            for (Field field : own.getDeclaredFields()) {
                fields += Modifier.isStatic(field.getModifiers()) ? 0 : 1;
            }
            Check.due(own + " has at most twenty fields", fields <= 20, true);
            for (Method method : own.getDeclaredMethods()) {
                Check.due(method + " bears a name of the face", names.contains(method.getName()), false);
                Check.due(method + " takes at most seven", method.getParameterCount() <= 7, true);
            }
        }
    }

    private static void words() throws IOException {
        String source = Files.readString(Path.of("src", "main", "java", "TermForge.java"));
        String code = source.replaceAll("(?s)/\\*.*?\\*/", "").replaceAll("//.*", "").replaceAll("\"[^\"]*\"", "\"\"");
        Matcher word = Pattern.compile(NOT_ALLOWED).matcher(code);
        Check.due("a word that is not allowed", word.find() ? word.group() : "", "");
        Set<String> imports = new TreeSet<>();
        Matcher matcher = Pattern.compile("import ([a-zA-Z.]+);").matcher(code);
        while (matcher.find()) {
            imports.add(matcher.group(1));
        }
        Check.due("imports", imports.toString(), "[java.util.Arrays, java.util.NoSuchElementException]");
    }
}
