import java.lang.reflect.Constructor;
import java.lang.reflect.Field;
import java.lang.reflect.Method;
import java.lang.reflect.Modifier;
import java.nio.file.Files;
import java.nio.file.Path;
import java.util.Arrays;
import java.util.Set;
import java.util.TreeSet;
import java.util.regex.Matcher;
import java.util.regex.Pattern;

/** The public face of DOC.md, and what LANGUAGE.md rules out that can be seen from outside or in the text. */
public final class FaceTest {
    private static final String[] CONSTANTS = {"NO_SUCH -1", "BAD_VALUE -2", "BAD_TEXT -3", "TOO_MANY -4",
        "NOT_POSSIBLE -5", "NONE -6", "DECAY 0", "ENCORE 1", "LAPSE 2", "EARLY 3", "FOUND 4", "CALL 5"};
    private static final String[] METHODS = {"set int int", "loud int int", "pay int", "ends int", "clap int",
        "pass int", "play int", "call", "night", "write", "of int int", "performer int int", "owed int int",
        "clapper int", "record int int", "sign int", "count int", "quietIn int", "clapsFor int", "lapsesIn int",
        "calls", "ifFound int", "put long", "wipe", "fault", "carryOut", "undo", "save int", "restore int"};
    private static final Pattern RULED_OUT = Pattern.compile("\\b(throws?|try|catch|finally|synchronized|assert|package"
        + "|import|volatile|transient|native|Object|equals|hashCode|toString|\\w+Exact|Math\\.random|Thread|Random"
        + "|nanoTime|currentTimeMillis)\\b|->|::|@");

    /** The library's classes that LANGUAGE.md lists, by a name that begins like one of a class. */
    private static final Pattern CLASS_NAME = Pattern.compile("\\b[A-Z]\\w*[a-z]\\w*\\b");
    private static final Set<String> LISTED = Set.of("String", "StringBuilder", "ArrayList", "List", "Integer", "Long",
        "Math", "Iterator", "Iterable", "Comparable", "System", "Arrays");

    private static int wrong = 0;

    private static void wrong(String what) {
        wrong++;
        System.out.println(what);
    }

    private static void same(String what, Set<String> got, String[] want) {
        Set<String> due = new TreeSet<>(Arrays.asList(want));
        if (!got.equals(due)) {
            wrong(what + " are " + got + ", due are " + due);
        }
    }

    private static boolean isHidden(int modifiers) {
        return Modifier.isPrivate(modifiers);
    }

    private static void face() throws IllegalAccessException {
        Class<?> face = ApplauseTallies.class;
        if (!Modifier.isPublic(face.getModifiers()) || !Modifier.isFinal(face.getModifiers())) {
            wrong("the class is not public and final");
        }
        Constructor<?>[] constructors = face.getDeclaredConstructors();
        if (constructors.length != 1 || constructors[0].getParameterCount() != 0
            || !Modifier.isPublic(constructors[0].getModifiers())) {
            wrong("the constructor is not the one of the face");
        }
        Set<String> constants = new TreeSet<>();
        for (Field field : face.getDeclaredFields()) {
            int modifiers = field.getModifiers();
            if (Modifier.isStatic(modifiers) && !Modifier.isFinal(modifiers)) {
                wrong("static and not final: " + field);
            }
            if (!isHidden(modifiers)) {
                constants.add(field.getName() + " " + (Modifier.isStatic(modifiers) ? field.getInt(null) : "no constant"));
            }
        }
        same("the constants", constants, CONSTANTS);
        methods(face);
        inside(face);
    }

    private static void methods(Class<?> face) {
        Set<String> methods = new TreeSet<>();
        Set<String> names = new TreeSet<>();
        Set<String> hidden = new TreeSet<>();
        for (Method method : face.getDeclaredMethods()) {
            if (isHidden(method.getModifiers()) || method.isSynthetic()) {
                hidden.add(method.getName());
                continue;
            }
            names.add(method.getName());
            StringBuilder text = new StringBuilder(method.getName());
            for (Class<?> type : method.getParameterTypes()) {
                text.append(" ").append(type);
            }
            methods.add(text.toString());
            if (!Modifier.isPublic(method.getModifiers()) || Modifier.isStatic(method.getModifiers())
                || method.getReturnType() != int.class) {
                wrong("not as in the face: " + method);
            }
        }
        same("the methods", methods, METHODS);
        for (Class<?> one : face.getDeclaredClasses()) {
            for (Method method : one.getDeclaredMethods()) {
                hidden.add(method.getName());
            }
        }
        hidden.retainAll(names);
        if (!hidden.isEmpty()) {
            wrong("methods that are not public with public names: " + hidden);
        }
    }

    private static void inside(Class<?> face) {
        Class<?>[] classes = face.getDeclaredClasses();
        if (classes.length > 12) {
            wrong("more than twelve classes inside");
        }
        for (Class<?> one : classes) {
            int modifiers = one.getModifiers();
            if (!Modifier.isStatic(modifiers) || Modifier.isPublic(modifiers) || Modifier.isProtected(modifiers)) {
                wrong("neither private nor package-visible and static: " + one);
            }
            int fields = 0;
            for (Field field : one.getDeclaredFields()) {
                if (!Modifier.isStatic(field.getModifiers())) {
                    fields++;
                }
            }
            if (fields > 20) {
                wrong("more than twenty fields: " + one);
            }
        }
    }

    private static void source() throws java.io.IOException {
        String text = Files.readString(Path.of("src/main/java/ApplauseTallies.java"));
        String code = text.replaceAll("(?s)/\\*.*?\\*/", "").replaceAll("//[^\n]*", "").replaceAll("'(\\\\.|[^'])'", "0");
        Matcher matcher = RULED_OUT.matcher(code);
        while (matcher.find()) {
            wrong("the source holds " + matcher.group());
        }
        Set<String> known = new TreeSet<>(LISTED);
        known.add("ApplauseTallies");
        for (Class<?> one : ApplauseTallies.class.getDeclaredClasses()) {
            known.add(one.getSimpleName());
        }
        Matcher name = CLASS_NAME.matcher(code);
        while (name.find()) {
            if (!known.contains(name.group())) {
                wrong("the source uses " + name.group());
            }
        }
        if (!text.chars().allMatch(sign -> sign < 128)) {
            wrong("the source holds a sign above 127");
        }
    }

    public static void main(String[] args) throws Exception {
        face();
        source();
        System.out.println(wrong == 0 ? "the face and the source are as due" : wrong + " things are not as due");
        if (wrong != 0) {
            System.exit(1);
        }
    }
}
