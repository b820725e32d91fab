import java.io.IOException;
import java.lang.reflect.Constructor;
import java.lang.reflect.Field;
import java.lang.reflect.Method;
import java.lang.reflect.Modifier;
import java.nio.file.Files;
import java.nio.file.Path;
import java.util.Arrays;
import java.util.Set;
import java.util.TreeSet;
import java.util.regex.Matcher;
import java.util.regex.Pattern;

/** The public face, the constants, and the rules of ../shared/LANGUAGE.md that a text shows. */
final class FaceTest {
    private static final Path SOURCE = Path.of("src/main/java/VernierSchool.java");

    private static final String[] METHODS = {
        "int addInstrument(int, int, int, boolean)", "int adjust(int, int, int)",
        "int setTrap(int, int)", "int announce(int)", "int addPupil(int, int)",
        "int teach(int, int)", "int train(int, int, int)", "int write(int, int, int)",
        "int appeal(int, int)", "int decide()", "int type(char)", "int clearText()",
        "int readPapers()", "int undo()", "int keep()", "int restore()", "int instrument(int, int)",
        "int pupil(int, int)", "int paper(int, int)", "int coincidence(int, int, int)",
        "int answer(int, int, int)", "int would(int, int)", "int ranked(int)", "int waiting(int)",
        "int count(int)"};

    public static void main(String[] args) throws IOException {
        constants();
        members();
        source(Files.readString(SOURCE));
        Check.end();
    }

    private static void constants() {
        Check.due("UNKNOWN", VernierSchool.UNKNOWN, -10000001);
        Check.due("BAD_VALUE", VernierSchool.BAD_VALUE, -10000002);
        Check.due("FULL", VernierSchool.FULL, -10000003);
        Check.due("NOT_POSSIBLE", VernierSchool.NOT_POSSIBLE, -10000004);
        Check.due("NONE", VernierSchool.NONE, -10000005);
    }

    private static void members() {
        Class<?> face = VernierSchool.class;
        Check.isTrue("the class is public and final", Modifier.isPublic(face.getModifiers())
                && Modifier.isFinal(face.getModifiers()));
        Set<String> methods = new TreeSet<>();
        for (Method method : face.getDeclaredMethods()) {
            if (!Modifier.isPrivate(method.getModifiers()) && !method.isSynthetic()) {
                Check.isTrue(method.getName() + " is plainly public",
                        method.getModifiers() == Modifier.PUBLIC);
                methods.add(method.getReturnType() + " " + method.getName() + "("
                        + Arrays.toString(method.getParameterTypes()).replaceAll("[\\[\\]]", "")
                        + ")");
            }
        }
        Check.isTrue("the methods are those of the document",
                methods.equals(new TreeSet<>(Arrays.asList(METHODS))));
        Set<String> fields = new TreeSet<>();
        for (Field field : face.getDeclaredFields()) {
            if (!Modifier.isPrivate(field.getModifiers())) {
                fields.add(field.getName());
            }
            Check.isTrue(field.getName() + " is final if it is static",
                    !Modifier.isStatic(field.getModifiers())
                    || Modifier.isFinal(field.getModifiers()));
        }
        Check.isTrue("the constants are those of the document",
                fields.toString().equals("[BAD_VALUE, FULL, NONE, NOT_POSSIBLE, UNKNOWN]"));
        Constructor<?>[] constructors = face.getDeclaredConstructors();
        Check.isTrue("one public constructor", constructors.length == 1
                && constructors[0].getModifiers() == Modifier.PUBLIC
                && constructors[0].getParameterCount() == 0);
        for (Class<?> inside : face.getDeclaredClasses()) {
            Check.isTrue(inside.getName() + " is static and not public",
                    Modifier.isStatic(inside.getModifiers())
                    && !Modifier.isPublic(inside.getModifiers()));
            noPublicNameInside(inside, methods);
        }
        Check.isTrue("few classes", face.getDeclaredClasses().length < 12);
    }

    private static void noPublicNameInside(Class<?> inside, Set<String> methods) {
        for (Method method : inside.getDeclaredMethods()) {
            for (String name : methods) {
                Check.isTrue(inside.getName() + " has no method named as " + name,
                        !name.contains(" " + method.getName() + "("));
            }
        }
    }

    private static void source(String text) {
        String code = text.replaceAll("(?s)/\\*.*?\\*/", " ").replaceAll("//[^\n]*", " ")
                .replaceAll("'(\\\\.|[^'\\\\])'", "0").replaceAll("\"(\\\\.|[^\"\\\\])*\"", "0");
        String[] words = {"throw", "throws", "try", "catch", "synchronized", "assert", "package",
            "import", "volatile", "native", "protected", "float", "double", "hashCode", "toString"};
        for (String word : words) {
            Check.isTrue("no word " + word, !code.matches("(?s).*\\b" + word + "\\b.*"));
        }
        Check.isTrue("no lambda or arrow", !code.contains("->"));
        Check.isTrue("no method reference", !code.contains("::"));
        Check.isTrue("no static block", !code.matches("(?s).*\\bstatic\\s*\\{.*"));
        Check.isTrue("one file, one type at its top",
                code.indexOf("public final class VernierSchool") >= 0);
        Check.isTrue("characters 1 to 127 alone", text.chars().allMatch(c -> c > 0 && c < 128));
        libraryCalls(code);
        shortMethods(text);
    }

    private static void libraryCalls(String code) {
        Set<String> allowed = Set.of("Math.max", "Math.min", "Math.abs", "Math.floorDiv",
                "Integer.bitCount", "System.arraycopy");
        Matcher calls = Pattern.compile("\\b([A-Z][a-z]\\w*\\.\\w+)\\s*\\(").matcher(code);
        while (calls.find()) {
            Check.isTrue(calls.group(1) + " is a call that is allowed",
                    allowed.contains(calls.group(1)));
        }
    }

    private static void shortMethods(String text) {
        int depth = 0;
        int length = 0;
        for (String line : text.split("\n")) {
            boolean head = line.matches("( {4}| {8})[a-zA-Z].*\\) \\{");
            length = head ? 0 : length + 1;
            depth += head ? 1 : 0;
            Check.isTrue("a short method ahead of " + line, length <= 60
                    || !line.matches("( {4}| {8})}"));
        }
        Check.isTrue("methods were found", depth > 50);
    }
}
