import java.io.IOException;
import java.lang.reflect.Constructor;
import java.lang.reflect.Field;
import java.lang.reflect.Method;
import java.lang.reflect.Modifier;
import java.nio.file.Files;
import java.nio.file.Path;
import java.util.ArrayList;
import java.util.List;
import java.util.Set;
import java.util.TreeSet;
import java.util.regex.Matcher;
import java.util.regex.Pattern;

/** The class has the document's face and no more; the source keeps to what can be seen of LANGUAGE.md. */
public final class FaceTest {
    private static final String[] FACE = {
        "public boolean ArrowClasses.arrow(int,int)",
        "public boolean ArrowClasses.covered(int,int)",
        "public boolean ArrowClasses.drawn(int,int)",
        "public boolean ArrowClasses.erase(int,int)",
        "public boolean ArrowClasses.first(int,int)",
        "public boolean ArrowClasses.know(int,int)",
        "public boolean ArrowClasses.separated(int,int,int)",
        "public boolean ArrowClasses.turn(int,int)",
        "public int ArrowClasses.around(int)",
        "public int ArrowClasses.collisions()",
        "public int ArrowClasses.edge(int,int)",
        "public int ArrowClasses.forget()",
        "public int ArrowClasses.loose()",
        "public int ArrowClasses.members()",
        "public int ArrowClasses.parents(int)",
        "public int ArrowClasses.reached(int)",
        "public int ArrowClasses.separations()",
        "public int ArrowClasses.separator(int,int)",
        "public int ArrowClasses.turned()",
        "public ArrowClasses(int)",
        "public static final int ArrowClasses.NONE",
    };
    private static final String[] FORBIDDEN = {
        "import", "package", "->", "::", "synchronized", "assert", "finally", "try", "throw", "System",
        "Exact", "Random", "Thread", "volatile", "native", "var",
    };
    private static final Set<String> LIBRARY = Set.of("Integer.bitCount", "Math.min", "Math.max");
    private static int wrong = 0;

    private static void check(boolean holds, String text) {
        if (!holds) {
            wrong++;
            System.out.println(text);
        }
    }

    private static void faceIsWhole() {
        Set<String> found = new TreeSet<>();
        for (Method method : ArrowClasses.class.getDeclaredMethods()) {
            addVisible(found, method.getModifiers(), method.toString());
        }
        for (Constructor<?> constructor : ArrowClasses.class.getDeclaredConstructors()) {
            addVisible(found, constructor.getModifiers(), constructor.toString());
        }
        for (Field field : ArrowClasses.class.getDeclaredFields()) {
            addVisible(found, field.getModifiers(), field.toString());
        }
        check(found.equals(new TreeSet<>(List.of(FACE))), "the face is " + found);
        int modifiers = ArrowClasses.class.getModifiers();
        check(Modifier.isPublic(modifiers) && Modifier.isFinal(modifiers), "the class is not public and final");
    }

    private static void addVisible(Set<String> found, int modifiers, String text) {
        if (!Modifier.isPrivate(modifiers)) {
            found.add(text);
        }
    }

    private static void namesAreApart() {
        Set<String> shown = new TreeSet<>();
        List<Method> others = new ArrayList<>();
        for (Method method : ArrowClasses.class.getDeclaredMethods()) {
            if (Modifier.isPublic(method.getModifiers())) {
                shown.add(method.getName());
            } else {
                others.add(method);
            }
        }
        for (Class<?> inside : ArrowClasses.class.getDeclaredClasses()) {
            check(Modifier.isStatic(inside.getModifiers()), inside + " is not static");
            others.addAll(List.of(inside.getDeclaredMethods()));
        }
        for (Method method : others) {
            check(!shown.contains(method.getName()), method + " bears the name of a public one");
        }
    }

    private static void staticsAreConstants() {
        for (Field field : ArrowClasses.class.getDeclaredFields()) {
            int modifiers = field.getModifiers();
            check(!Modifier.isStatic(modifiers) || Modifier.isFinal(modifiers) && field.getType() == int.class,
                    field + " is static and no constant");
        }
    }

    private static void sourceIsPlain() throws IOException {
        String source = Files.readString(Path.of("src/main/java/ArrowClasses.java"));
        String code = source.replaceAll("(?s)/\\*.*?\\*/", "").replaceAll("//[^\n]*", "");
        for (String word : FORBIDDEN) {
            boolean isWord = Character.isLetter(word.charAt(0));
            Pattern pattern = Pattern.compile(isWord ? "\\b" + word + "\\b" : Pattern.quote(word));
            check(!pattern.matcher(code).find(), "the source has " + word);
        }
        Matcher call = Pattern.compile("\\b[A-Z]\\w*\\.\\w+").matcher(code);
        while (call.find()) {
            check(LIBRARY.contains(call.group()), "the source uses " + call.group());
        }
    }

    public static void main(String[] args) throws IOException {
        faceIsWhole();
        namesAreApart();
        staticsAreConstants();
        sourceIsPlain();
        System.out.println(wrong == 0 ? "the face and the source are as due" : wrong + " faults");
        if (wrong != 0) {
            System.exit(1);
        }
    }
}
