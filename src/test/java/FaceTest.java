import java.io.IOException;
import java.lang.reflect.Constructor;
import java.lang.reflect.Field;
import java.lang.reflect.Method;
import java.lang.reflect.Modifier;
import java.nio.file.Files;
import java.nio.file.Path;
import java.util.Arrays;
import java.util.List;
import java.util.Set;
import java.util.TreeSet;
import java.util.regex.Pattern;

/** The public face of the document, and the rules of LANGUAGE.md that can be seen without a reader. */
public final class FaceTest {
    private static final String FACE = "int town(int,int,int,int)|int ofPerson(int,int)|int bend(int,int)|int hang(int,int,int)"
        + "|int ofThree(int,int)|int strike(int)|int touch(int)|int bars(int)|int leave(int)|int season(int,int,int,int,int)"
        + "|int pitched(int,int)|int most(int)|int rather()|int together(int,int,int)|int reading(int,int)|int back(int)"
        + "|int sides(int)|int kinds(int)|long odds(int,int)|int sheet(int,int,int)|int lose(int)|int put(int,int,int)"
        + "|long cell(int,int,int)|int copy(int,int,int,int,int)|int tell(int)|int count(int)|int as(int,int)|int trace()"
        + "|int fault()|int many(int)";
    private static final String[] FORBIDDEN = {
        "throw", "throws", "try", "catch", "finally", "synchronized", "assert", "import", "package", "volatile",
        "Object", "System\\.out", "equals", "hashCode", "toString", "\\w+Exact", "->", "::"
    };

    public static void main(String[] args) throws IOException {
        methodsAreThoseOfTheDocument();
        constantsAreThoseOfTheDocument();
        nothingElseIsSeen();
        sourceKeepsToTheLanguage();
        Due.finish();
    }

    private static String told(Method method) {
        StringBuilder types = new StringBuilder();
        for (Class<?> type : method.getParameterTypes()) types.append(types.length() == 0 ? "" : ",").append(type.getName());
        return method.getReturnType().getName() + " " + method.getName() + "(" + types + ")";
    }

    private static void methodsAreThoseOfTheDocument() {
        Set<String> wanted = new TreeSet<>(Arrays.asList(FACE.split("\\|")));
        Set<String> found = new TreeSet<>();
        for (Method method : StruckThrees.class.getDeclaredMethods()) {
            if (Modifier.isPublic(method.getModifiers())) {
                found.add(told(method));
                Due.due("static " + told(method), Modifier.isStatic(method.getModifiers()) ? 1 : 0, 0);
            }
        }
        Due.due("public methods " + found, found.equals(wanted) ? 1 : 0, 1);
        Due.due("how many", wanted.size(), 30);
        int kind = StruckThrees.class.getModifiers();
        Due.due("public and final", Modifier.isPublic(kind) && Modifier.isFinal(kind) ? 1 : 0, 1);
        Constructor<?>[] constructors = StruckThrees.class.getDeclaredConstructors();
        Due.due("constructors", constructors.length, 1);
        Due.due("its parameters", constructors[0].getParameterCount(), 0);
        Due.due("it is public", Modifier.isPublic(constructors[0].getModifiers()) ? 1 : 0, 1);
    }

    private static void constantsAreThoseOfTheDocument() {
        Due.due("UNKNOWN", StruckThrees.UNKNOWN, -1);
        Due.due("OUTSIDE", StruckThrees.OUTSIDE, -2);
        Due.due("STATE", StruckThrees.STATE, -3);
        Due.due("FULL", StruckThrees.FULL, -4);
        Due.due("NONE", StruckThrees.NONE, -9);
        Due.due("LOST", StruckThrees.LOST, Long.MIN_VALUE);
    }

    private static void nothingElseIsSeen() {
        Set<String> constants = Set.of("UNKNOWN", "OUTSIDE", "STATE", "FULL", "NONE", "LOST");
        Set<String> names = new TreeSet<>();
        for (Method method : StruckThrees.class.getMethods()) names.add(method.getName());
        for (Field field : StruckThrees.class.getDeclaredFields()) {
            boolean isConstant = constants.contains(field.getName()) && Modifier.isPublic(field.getModifiers());
            Due.due("field " + field.getName(), isConstant || Modifier.isPrivate(field.getModifiers()) ? 1 : 0, 1);
            keepsToStatics(field);
        }
        for (Method method : StruckThrees.class.getDeclaredMethods()) {
            int kind = method.getModifiers();
            Due.due("method " + method.getName(), Modifier.isPublic(kind) || Modifier.isPrivate(kind) ? 1 : 0, 1);
            if (Modifier.isPrivate(kind)) Due.due("private " + method.getName(), names.contains(method.getName()) ? 1 : 0, 0);
        }
        Class<?>[] inside = StruckThrees.class.getDeclaredClasses();
        Due.due("at most twelve classes", inside.length < 12 ? 1 : 0, 1);
        for (Class<?> one : inside) {
            int kind = one.getModifiers();
            Due.due("class " + one.getName(), Modifier.isStatic(kind) && !Modifier.isPublic(kind) && !Modifier.isProtected(kind) ? 1 : 0, 1);
            for (Field field : one.getDeclaredFields()) keepsToStatics(field);
            for (Method method : one.getDeclaredMethods()) {
                Due.due("a method of the face's name " + method.getName(), names.contains(method.getName()) ? 1 : 0, 0);
                Due.due("parameters of " + method.getName(), method.getParameterCount() <= 7 ? 1 : 0, 1);
            }
        }
    }

    private static void keepsToStatics(Field field) {
        int kind = field.getModifiers();
        Due.due("static field " + field.getName(), !Modifier.isStatic(kind) || Modifier.isFinal(kind) ? 1 : 0, 1);
    }

    private static void sourceKeepsToTheLanguage() throws IOException {
        List<String> lines = Files.readAllLines(Path.of("src/main/java/StruckThrees.java"));
        int begun = -1;
        for (int k = 0; k < lines.size(); k++) {
            String code = lines.get(k).replaceAll("/\\*\\*.*?\\*/", "").replaceAll("//.*", "");
            for (String word : FORBIDDEN) {
                String pattern = Character.isLetter(word.charAt(0)) || word.charAt(0) == '\\' ? "\\b" + word + "\\b" : word;
                Due.due("line " + (k + 1) + " has " + word, Pattern.compile(pattern).matcher(code).find() ? 1 : 0, 0);
            }
            if (code.matches(" {4}( {4})?\\S.*\\) \\{")) begun = k;
            if (code.matches(" {4}( {4})?\\}") && begun >= 0) {
                Due.due("lines of the method at " + (begun + 1), k - begun < 60 ? 1 : 0, 1);
            }
        }
    }
}
