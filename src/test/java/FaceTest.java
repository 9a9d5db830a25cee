import java.lang.reflect.Constructor;
import java.lang.reflect.Field;
import java.lang.reflect.Method;
import java.lang.reflect.Modifier;
import java.nio.file.Files;
import java.nio.file.Path;
import java.util.Set;
import java.util.TreeSet;
import java.util.regex.Pattern;

/** The public face of the document, and rules of LANGUAGE.md that a look at the text can tell. */
final class FaceTest {
    private static final String[] FACE = {
        "int append(int,int) IllegalArgumentException,IllegalStateException",
        "int patch(int,int,int) IllegalArgumentException,IndexOutOfBoundsException",
        "int clear(int) IllegalArgumentException",
        "int byteOf(int,int) IllegalArgumentException,IndexOutOfBoundsException",
        "int make() ",
        "int commands() ",
        "int command(int,int) IndexOutOfBoundsException,IllegalArgumentException",
        "boolean mustPrecede(int,int) IndexOutOfBoundsException",
        "int plan(int) IllegalArgumentException,IllegalStateException",
        "int planned(int) IllegalStateException,IndexOutOfBoundsException",
        "int converted() IllegalStateException",
        "int loss() IllegalStateException",
        "int leastLoss() ",
        "int encode() IllegalStateException",
        "int write(int) IllegalArgumentException,IllegalStateException",
        "int clearCode() ",
        "int code(int) IllegalArgumentException",
        "int decode() ",
        "int begin() IllegalStateException",
        "int step() IllegalStateException",
        "int workByte(int) IllegalArgumentException,IllegalStateException",
        "int compare() IllegalStateException",
        "double ratio() ",
        "int undo() IllegalStateException",
        "long digest() ",
    };

    public static void main(String[] args) throws Exception {
        members();
        text();
        Due.end();
    }

    private static void members() {
        Class<?> type = InPlaceDelta.class;
        Due.is("public and final", type.getModifiers(), Modifier.PUBLIC | Modifier.FINAL);
        Constructor<?>[] constructors = type.getDeclaredConstructors();
        Due.is("constructors", constructors.length, 1);
        Due.is("the constructor", constructors[0].toString(), "public InPlaceDelta()");
        Set<String> open = new TreeSet<>();
        Set<String> hidden = new TreeSet<>();
        for (Method method : type.getDeclaredMethods()) {
            if (Modifier.isPublic(method.getModifiers())) {
                open.add(signature(method));
            } else {
                Due.is(method + " is private", Modifier.isPrivate(method.getModifiers()));
                hidden.add(method.getName());
            }
        }
        Due.is("the face", open, new TreeSet<>(Set.of(FACE)));
        for (String face : FACE) {
            String name = face.substring(face.indexOf(' ') + 1, face.indexOf('('));
            Due.is("no private method is named " + name, !hidden.contains(name));
        }
        for (Field field : type.getDeclaredFields()) {
            boolean constant = field.getName().equals("NONE");
            Due.is(field + " is private", constant || Modifier.isPrivate(field.getModifiers()));
        }
        Due.is("NONE", InPlaceDelta.NONE, -1);
    }

    private static String signature(Method method) {
        return method.getReturnType() + " " + method.getName() + "("
                + names(method.getParameterTypes()) + ") " + names(method.getExceptionTypes());
    }

    private static String names(Class<?>[] types) {
        StringBuilder text = new StringBuilder();
        for (Class<?> type : types) {
            text.append(text.length() == 0 ? "" : ",").append(type.getSimpleName());
        }
        return text.toString();
    }

    private static void text() throws Exception {
        String source = Files.readString(Path.of("src/main/java/InPlaceDelta.java"));
        String code = source.replaceAll("(?s)/\\*.*?\\*/|//[^\n]*", "").replaceAll("\"[^\"\n]*\"", "\"\"");
        String[] outside = {
            "\\bimport\\b", "\\bpackage\\b", "\\bcatch\\b", "\\bfinally\\b", "\\bassert\\b", "\\bsynchronized\\b",
            "->", "::", "Exact\\b", "Float", "Double", "\\.hashCode\\b", "\\bequals\\b", "\\btoString\\b",
            "static\\s*\\{", "[^\\x00-\\x7f]",
        };
        for (String pattern : outside) {
            Due.is("the text has no " + pattern, !Pattern.compile(pattern).matcher(code).find());
        }
        int classes = code.split("\\bclass\\b", -1).length - 1;
        Due.is("at most 12 classes, there are " + classes, classes <= 12);
    }
}
