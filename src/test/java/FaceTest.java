import java.io.IOException;
import java.lang.reflect.Constructor;
import java.lang.reflect.Field;
import java.lang.reflect.Method;
import java.lang.reflect.Modifier;
import java.nio.file.Files;
import java.nio.file.Path;
import java.util.ArrayList;
import java.util.List;
import java.util.Set;
import java.util.TreeSet;
import java.util.regex.Matcher;
import java.util.regex.Pattern;

/** The class has the document's face and no more; the source keeps to what can be seen of LANGUAGE.md. */
public final class FaceTest {
    private static final String[] FACE = {
        "public boolean ArrowClasses.arrow(int,int)",
        "public boolean ArrowClasses.covered(int,int)",
        "public boolean ArrowClasses.drawn(int,int)",
        "public boolean ArrowClasses.erase(int,int)",
        "public boolean ArrowClasses.first(int,int)",
        "public boolean ArrowClasses.know(int,int)",
        "public boolean ArrowClasses.separated(int,int,int)",
        "public boolean ArrowClasses.turn(int,int)",
        "public int ArrowClasses.around(int)",
        "public int ArrowClasses.collisions()",
        "public int ArrowClasses.edge(int,int)",
        "public int ArrowClasses.forget()",
        "public int ArrowClasses.loose()",
        "public int ArrowClasses.members()",
        "public int ArrowClasses.parents(int)",
        "public int ArrowClasses.reached(int)",
        "public int ArrowClasses.separations()",
        "public int ArrowClasses.separator(int,int)",
        "public int ArrowClasses.turned()",
        "public ArrowClasses(int)",
        "public static final int ArrowClasses.NONE",
    };
    private static final String[] FORBIDDEN = {
        "import", "package", "->", "::", "synchronized", "assert", "finally", "try", "throw", "System",
        "Exact", "Random", "Thread", "volatile", "native", "var",
    };
    private static final Set<String> LIBRARY = Set.of("Integer.bitCount", "Math.min", "Math.max");
    private static int wrong = 0;

    private static void check(boolean holds, String text) {
        if (!holds) {
            wrong++;
            System.out.println(text);
        }
    }

    private static void faceIsWhole() {
        Set<String> found = new TreeSet<>();
        for (Method method : ArrowClasses.class.getDeclaredMethods()) {
            addVisible(found, method.getModifiers(), method.toString());
        }
        for (Constructor<?> constructor : ArrowClasses.class.getDeclaredConstructors()) {
            addVisible(found, constructor.getModifiers(), constructor.toString());
        }
        for (Field field : ArrowClasses.class.getDeclaredFields()) {
            addVisible(found, field.getModifiers(), field.toString());
        }
        check(found.equals(new TreeSet<>(List.of(FACE))), "the face is " + found);
        int modifiers = ArrowClasses.class.getModifiers();
        check(Modifier.isPublic(modifiers) && Modifier.isFinal(modifiers), "the class is not public and final");
    }

    private static void addVisible(Set<String> found, int modifiers, String text) {
        if (!Modifier.isPrivate(modifiers)) {
            found.add(text);
        }
    }

    private static void namesAreApart() {
        Set<String> shown = new TreeSet<>();
        List<Method> others = new ArrayList<>();
        for (Method method : ArrowClasses.class.getDeclaredMethods()) {
            if (Modifier.isPublic(method.getModifiers())) {
                shown.add(method.getName());
            } else {
                others.add(method);
            }
        }
        for (Class<?> inside : ArrowClasses.class.getDeclaredClasses()) {
            check(Modifier.isStatic(inside.getModifiers()), inside + " is not static");
            others.addAll(List.of(inside.getDeclaredMethods()));
        }
        for (Method method : others) {
            check(!shown.contains(method.getName()), method + " bears the name of a public one");
        }
    }

    private static List<Class<?>> allClasses() {
        List<Class<?>> all = new ArrayList<>(List.of(ArrowClasses.class.getDeclaredClasses()));
        all.add(ArrowClasses.class);
        return all;
    }

    private static void staticsAreConstants() {
        for (Class<?> one : allClasses()) {
            for (Field field : one.getDeclaredFields()) {
                int modifiers = field.getModifiers();
                check(!Modifier.isStatic(modifiers) || Modifier.isFinal(modifiers) && field.getType() == int.class,
                        field + " is static and no constant");
            }
        }
    }

    /** Rule 11's numbers, but for the depth of calls, and rule 3's types as far as this program needs them. */
    private static void sizesAreSmall() {
        check(allClasses().size() <= 12, "there are more than 12 classes");
        for (Class<?> one : allClasses()) {
            int fields = 0;
            for (Field field : one.getDeclaredFields()) {
                Class<?> type = field.getType();
                fields += Modifier.isStatic(field.getModifiers()) ? 0 : 1;
                check(type == int.class || type == boolean.class || type == int[].class
                        || allClasses().contains(type), field + " has another type");
            }
            check(fields <= 20, one + " has more than 20 fields");
            for (Method method : one.getDeclaredMethods()) {
                check(method.getParameterCount() <= 7, method + " has more than 7 parameters");
            }
        }
    }

    private static void methodsAreShort(String source) {
        Pattern head = Pattern.compile("( {4}| {8})(?!if|for|while|do|switch|\\})\\S.*\\) \\{");
        String end = "";
        int begun = 0;
        int methods = 0;
        int number = 0;
        for (String line : source.split("\n")) {
            number++;
            Matcher found = head.matcher(line);
            if (found.matches()) {
                end = found.group(1) + "}";
                begun = number;
                methods++;
            }
            if (begun != 0 && line.equals(end)) {
                check(number - begun < 60, "a method has more than 60 lines up to line " + number);
                begun = 0;
            }
            check(line.chars().noneMatch(c -> c > 255), "line " + number + " has a character above 255");
        }
        check(methods >= FACE.length - 1, "only " + methods + " methods were seen in the source");
    }

    private static void sourceIsPlain() throws IOException {
        String source = Files.readString(Path.of("src/main/java/ArrowClasses.java"));
        methodsAreShort(source);
        String code = source.replaceAll("(?s)/\\*.*?\\*/", "").replaceAll("//[^\n]*", "");
        for (String word : FORBIDDEN) {
            boolean isWord = Character.isLetter(word.charAt(0));
            Pattern pattern = Pattern.compile(isWord ? "\\b" + word + "\\b" : Pattern.quote(word));
            check(!pattern.matcher(code).find(), "the source has " + word);
        }
        Matcher call = Pattern.compile("\\b[A-Z]\\w*\\.\\w+").matcher(code);
        while (call.find()) {
            check(LIBRARY.contains(call.group()), "the source uses " + call.group());
        }
    }

    public static void main(String[] args) throws IOException {
        faceIsWhole();
        namesAreApart();
        staticsAreConstants();
        sizesAreSmall();
        sourceIsPlain();
        System.out.println(wrong == 0 ? "the face and the source are as due" : wrong + " faults");
        if (wrong != 0) {
            System.exit(1);
        }
    }
}
