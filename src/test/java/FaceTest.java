import java.io.IOException;
import java.lang.reflect.Constructor;
import java.lang.reflect.Executable;
import java.lang.reflect.Field;
import java.lang.reflect.Method;
import java.lang.reflect.Modifier;
import java.nio.charset.StandardCharsets;
import java.nio.file.Files;
import java.nio.file.Path;
import java.util.Arrays;
import java.util.Set;
import java.util.TreeSet;
import java.util.regex.Matcher;
import java.util.regex.Pattern;
import java.util.stream.Collectors;

/** The face of the class, and those rules of LANGUAGE.md that can be looked at from outside or in the text. */
public final class FaceTest {
    private static final String[] FACE = {
        "int append(int) IllegalArgumentException IllegalStateException",
        "int load() IllegalArgumentException",
        "int errorPosition()",
        "boolean setWall(int,boolean) IndexOutOfBoundsException IllegalStateException",
        "int setMark(int,int) IndexOutOfBoundsException IllegalArgumentException IllegalStateException",
        "int setCost(int,int) IndexOutOfBoundsException IllegalArgumentException IllegalStateException",
        "int setMotion(int,int,int) IllegalArgumentException",
        "int setSensor(int,int,int) IndexOutOfBoundsException IllegalArgumentException",
        "int setRate(int) IllegalArgumentException",
        "int setLimit(int) IllegalArgumentException",
        "int cell(int,int) IndexOutOfBoundsException IllegalArgumentException",
        "int motion(int,int,int) IndexOutOfBoundsException IllegalArgumentException",
        "int map(int) IndexOutOfBoundsException",
        "int spread()",
        "int place(int) IndexOutOfBoundsException IllegalStateException",
        "int move(int) IllegalArgumentException",
        "boolean see(int) IllegalArgumentException IllegalStateException",
        "int belief(int) IndexOutOfBoundsException",
        "int ranked(int) IndexOutOfBoundsException",
        "int core(int) IllegalArgumentException",
        "long doubtBits()",
        "int shareBits()",
        "int promising()",
        "int steps(int) IllegalArgumentException",
        "int step(int) NoSuchElementException",
        "long exact(int) IndexOutOfBoundsException IllegalStateException",
        "int likely() IllegalStateException",
        "int path(int) IllegalStateException IndexOutOfBoundsException",
        "long pathWeight() IllegalStateException",
        "int wayCost(int,int) IndexOutOfBoundsException IllegalStateException NoSuchElementException",
        "int wayDirection(int,int) IndexOutOfBoundsException IllegalStateException NoSuchElementException",
        "int expectedCost(int) IndexOutOfBoundsException IllegalStateException",
        "int seed(int)",
        "int drive(int) IllegalArgumentException",
        "int sense() IllegalStateException",
        "int carry(int) IndexOutOfBoundsException IllegalStateException",
        "int rover()",
        "int count(int) IllegalArgumentException",
        "int undo() IllegalStateException",
        "int save()",
        "int restore() IllegalStateException",
    };

    private static final Check check = new Check();

    public static void main(String[] args) throws IOException {
        face();
        insides();
        text(Files.readString(Path.of("src/main/java/RoverLocator.java"), StandardCharsets.UTF_8));
        check.end("FaceTest");
    }

    private static String names(Class<?>[] classes, String between) {
        return Arrays.stream(classes).map(Class::getSimpleName).collect(Collectors.joining(between));
    }

    private static String show(Method method) {
        String thrown = names(method.getExceptionTypes(), " ");
        return method.getReturnType().getSimpleName() + " " + method.getName() + "("
            + names(method.getParameterTypes(), ",") + ")" + (thrown.isEmpty() ? "" : " " + thrown);
    }

    private static boolean isPrivate(int modifiers) {
        return Modifier.isPrivate(modifiers);
    }

    private static void face() {
        int own = RoverLocator.class.getModifiers();
        check.due("public and final", Modifier.isPublic(own) && Modifier.isFinal(own), true);
        Set<String> got = new TreeSet<>();
        for (Method method : RoverLocator.class.getDeclaredMethods()) {
            if (Modifier.isPublic(method.getModifiers())) {
                got.add(show(method));
                check.due(method + " is static", Modifier.isStatic(method.getModifiers()), false);
            } else if (!method.isSynthetic()) {
                check.due(method + " is private", isPrivate(method.getModifiers()), true);
            }
        }
        for (String want : FACE) {
            check.due("the face has " + want, got.remove(want), true);
        }
        check.due("beyond the face: " + got, got.size(), 0);
        Constructor<?>[] constructors = RoverLocator.class.getDeclaredConstructors();
        check.due("constructors", constructors.length, 1);
        check.due("a public one without parameters",
            constructors[0].getParameterCount() == 0 && Modifier.isPublic(constructors[0].getModifiers()), true);
        for (Field field : RoverLocator.class.getDeclaredFields()) {
            check.due(field + " is private", isPrivate(field.getModifiers()), true);
        }
    }

    private static void insides() {
        Set<String> names = Arrays.stream(FACE).map(line -> line.replaceAll("^\\w+ (\\w+)\\(.*", "$1"))
            .collect(Collectors.toCollection(TreeSet::new));
        Class<?>[] classes = RoverLocator.class.getDeclaredClasses();
        check.due("at most twelve classes", classes.length < 12, true);
        for (Class<?> inside : classes) {
            int modifiers = inside.getModifiers();
            check.due(inside + " is hidden", Modifier.isPublic(modifiers) || Modifier.isProtected(modifiers), false);
            check.due(inside + " is static", Modifier.isStatic(modifiers), true);
            for (Method method : inside.getDeclaredMethods()) {
                check.due(method + " has a name of the face", names.contains(method.getName()), false);
                fewParameters(method);
            }
            fields(inside);
        }
        for (Method method : RoverLocator.class.getDeclaredMethods()) {
            if (isPrivate(method.getModifiers())) {
                check.due(method + " has a name of the face", names.contains(method.getName()), false);
            }
            fewParameters(method);
        }
        fields(RoverLocator.class);
    }

    private static void fewParameters(Executable method) {
        check.due(method + " takes at most seven", method.getParameterCount() <= 7, true);
    }

    private static void fields(Class<?> owner) {
        int changing = 0;
        for (Field field : owner.getDeclaredFields()) {
            if (Modifier.isStatic(field.getModifiers())) {
                check.due(field + " is final", Modifier.isFinal(field.getModifiers()), true);
                check.due(field + " is of an allowed type", field.getType() == int.class, true);
            } else {
                changing++;
            }
        }
        check.due(owner + " has at most twenty fields", changing <= 20, true);
    }

    private static void text(String source) {
        for (int i = 0; i < source.length(); i++) {
            if (source.charAt(i) > 126) {
                check.tell("a sign beyond 126 at " + i);
            }
        }
        String code = source.replaceAll("(?s)/\\*.*?\\*/", "").replaceAll("//[^\n]*", "")
            .replaceAll("\"[^\"\n]*\"", "\"\"");
        String[] forbidden = {"->", "::", "\\bcatch\\b", "\\btry\\b", "\\bfinally\\b", "\\bsynchronized\\b",
            "\\bassert\\b", "\\binstanceof\\b", "Exact\\(", "\\bDouble\\b", "\\bFloat\\b", "\\bSystem\\.(?!arraycopy)",
            "\\bString\\b", "\\bpackage\\b", "static\\s*\\{", "\\bhashCode\\b", "\\bequals\\b", "\\btoString\\b"};
        for (String sign : forbidden) {
            check.due("'" + sign + "' stands in the code", Pattern.compile(sign).matcher(code).find(), false);
        }
        for (String line : code.split("\n")) {
            if (line.contains("import ")) {
                check.due(line, line.equals("import java.util.NoSuchElementException;"), true);
            }
            if (line.contains("new ")) {
                check.due("made in a constructor: " + line, line.contains("throw new ")
                    || line.contains("private final ") || line.contains("states[index] = new State()"), true);
            }
        }
        Matcher calls = Pattern.compile("\\bMath\\.(\\w+)").matcher(code);
        while (calls.find()) {
            check.due("Math." + calls.group(1), calls.group(1).equals("max") || calls.group(1).equals("min"), true);
        }
    }
}
