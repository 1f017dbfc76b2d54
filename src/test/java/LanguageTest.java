import java.io.IOException;
import java.lang.reflect.Constructor;
import java.lang.reflect.Field;
import java.lang.reflect.Method;
import java.lang.reflect.Modifier;
import java.nio.file.Files;
import java.nio.file.Path;
import java.util.ArrayList;
import java.util.List;
import java.util.Set;
import java.util.TreeSet;
import java.util.regex.Matcher;
import java.util.regex.Pattern;

/** The rules of LANGUAGE.md that can be seen in the text of the class and in its members. */
public final class LanguageTest {
    private static final String SOURCE = "src/main/java/CrowningSeats.java";
    private static final Set<String> FACE = Set.of(
        "int feed(int,int,int,int,int)", "boolean end(int)", "int guest(int,int,int,int,int,int)",
        "boolean gone(int,boolean)", "boolean bar(int,int,boolean)", "int row(int,int,int)", "boolean set(int,int,int)",
        "int rules()", "int fault(int)", "int rank(int)", "int ranked(int)", "int seat(boolean)", "int moved()",
        "int sits(int,int)", "int at(int,int)", "int spare(int)", "int hidden(int)", "int hider(int,int)",
        "int stage(int)", "int morning(int,int)", "int comes(int,int)", "int all(int)");
    private static final Set<String> LIBRARY = Set.of(
        "Arrays.fill", "Math.min", "Math.max", "Math.floorDiv");
    private static final Set<Class<?>> NUMBERS = Set.of(
        int.class, long.class, short.class, byte.class, char.class, boolean.class);

    private static int wrong;

    public static void main(String[] args) throws IOException {
        String text = Files.readString(Path.of(SOURCE));
        String code = withoutCommentsAndTexts(text);
        face();
        List<Class<?>> classes = new ArrayList<>(List.of(CrowningSeats.class.getDeclaredClasses()));
        classes.add(CrowningSeats.class);
        check(classes.size() <= 12, "rule 11: there are " + classes.size() + " classes");
        for (Class<?> one : classes) {
            members(one);
        }
        words(code);
        library(code);
        lengths(code);
        System.out.println(wrong == 0 ? "the class keeps to the rules looked at" : wrong + " rules are broken");
        if (wrong != 0) {
            System.exit(1);
        }
    }

    private static void check(boolean holds, String what) {
        if (!holds) {
            wrong++;
            System.out.println(what);
        }
    }

    private static String withoutCommentsAndTexts(String text) {
        return text.replaceAll("(?s)/\\*.*?\\*/", "").replaceAll("//[^\n]*", "").replaceAll("\"[^\"\n]*\"", "\"\"")
            .replaceAll("'[^'\n]'", "' '");
    }

    private static String signature(Method method) {
        List<String> types = new ArrayList<>();
        for (Class<?> type : method.getParameterTypes()) {
            types.add(type.getSimpleName());
        }
        return method.getReturnType().getSimpleName() + " " + method.getName() + "(" + String.join(",", types) + ")";
    }

    private static void face() {
        Class<?> face = CrowningSeats.class;
        check(Modifier.isPublic(face.getModifiers()) && Modifier.isFinal(face.getModifiers()), "rule 1: public final");
        Set<String> open = new TreeSet<>();
        for (Method method : face.getDeclaredMethods()) {
            if (Modifier.isPublic(method.getModifiers())) {
                open.add(signature(method));
            } else {
                check(Modifier.isPrivate(method.getModifiers()), "rule 1: not private: " + method);
            }
        }
        check(open.equals(new TreeSet<>(FACE)), "rule 1: the face is " + open);
        for (Field field : face.getDeclaredFields()) {
            boolean isConstant = field.getName().equals("NONE");
            check(isConstant ? Modifier.isPublic(field.getModifiers()) : Modifier.isPrivate(field.getModifiers()),
                "rule 1: " + field);
        }
        for (Constructor<?> constructor : face.getDeclaredConstructors()) {
            check(Modifier.isPublic(constructor.getModifiers()) && constructor.getParameterCount() == 0,
                "rule 1: " + constructor);
        }
    }

    private static void members(Class<?> one) {
        boolean isInside = one != CrowningSeats.class;
        check(!isInside || Modifier.isStatic(one.getModifiers()) && !Modifier.isPublic(one.getModifiers()),
            "rule 2: " + one);
        int fields = 0;
        for (Field field : one.getDeclaredFields()) {
            if (Modifier.isStatic(field.getModifiers())) {
                check(Modifier.isFinal(field.getModifiers()) && NUMBERS.contains(field.getType()), "rule 5: " + field);
            } else {
                fields++;
            }
            Class<?> type = field.getType().isArray() ? field.getType().getComponentType() : field.getType();
            check(NUMBERS.contains(type) || type.getName().startsWith("CrowningSeats$"), "rule 3: " + field);
        }
        check(fields <= 20, "rule 11: fields of " + one);
        for (Method method : one.getDeclaredMethods()) {
            check(method.getParameterCount() <= 7, "rule 11: parameters of " + method);
            check(!method.isSynthetic(), "rule 2: " + method);
            if (isInside) {
                check(FACE.stream().noneMatch(f -> f.contains(" " + method.getName() + "(")), "rule 1: name of " + method);
            }
        }
    }

    private static void words(String code) {
        for (String word : new String[] {"throw", "throws", "try", "catch", "finally", "synchronized", "assert", "protected",
            "native", "volatile", "transient", "hashCode", "toString", "Object", "double", "float", "var", "yield"}) {
            check(!Pattern.compile("\\b" + word + "\\b").matcher(code).find(), "rule 6 or 3: " + word);
        }
        check(!code.contains("->") && !code.contains("::"), "rule 2: a lambda or a method reference");
        check(!code.contains("@"), "an annotation");
        check(!code.contains("while (true)") && !code.contains("for (;;"), "rule 9: a loop without an end");
        Matcher imports = Pattern.compile("\\bimport\\b[^;]*;").matcher(code);
        while (imports.find()) {
            check(imports.group().equals("import java.util.Arrays;"), "rule 4: " + imports.group());
        }
        check(!Pattern.compile("\\bpackage\\b").matcher(code).find(), "a package line");
    }

    private static void library(String code) {
        Matcher calls = Pattern.compile("\\b(Arrays|Math|System|Integer|Long|String|Character)\\.\\w+").matcher(
            code.replace("import java.util.Arrays;", ""));
        while (calls.find()) {
            check(LIBRARY.contains(calls.group()), "rule 4: " + calls.group());
        }
        check(!Pattern.compile("[^<>=!+\\-*/]\\s/\\s*0\\b").matcher(code).find(), "rule 7: a division by 0");
        check(Pattern.compile("[\\w)\\]] %").matcher(code).results().count() == 0, "rule 7: a remainder not looked at");
    }

    /** A method's head stands at one or two steps of four blanks, and so does its last brace. */
    private static void lengths(String code) {
        for (String indent : new String[] {"    ", "        "}) {
            Matcher methods = Pattern.compile("(?m)^" + indent + "\\w[^;={}]*\\) \\{\\n(?s:(.*?))^" + indent + "\\}").matcher(code);
            while (methods.find()) {
                check(methods.group(1).lines().count() <= 60, "rule 11: long: " + methods.group().lines().findFirst());
            }
        }
    }
}
