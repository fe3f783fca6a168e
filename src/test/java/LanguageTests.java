import java.io.IOException;
import java.lang.reflect.Constructor;
import java.lang.reflect.Executable;
import java.lang.reflect.Field;
import java.lang.reflect.Member;
import java.lang.reflect.Method;
import java.lang.reflect.Modifier;
import java.nio.charset.StandardCharsets;
import java.nio.file.Files;
import java.nio.file.Path;
import java.util.ArrayList;
import java.util.Arrays;
import java.util.List;
import java.util.Set;
import java.util.TreeSet;
import java.util.regex.Matcher;
import java.util.regex.Pattern;
import java.util.stream.Collectors;

/** The face that the document gives the class, and those rules of LANGUAGE.md that can be looked at from outside. */
public final class LanguageTests {
    private static final Pattern FACE = Pattern.compile("```java\n.*?public final class FerryDraughts \\{\n(.*?)\n}\n```", Pattern.DOTALL);
    private static final Pattern CALL = Pattern.compile("public (?:(\\w+) )?(\\w+)\\((.*?)\\)(?: throws (.*?))?;");
    private static final Pattern HEAD = Pattern.compile("( +)(?:\\w+(?:\\[\\])? )+\\w+\\(.*");
    private static final Pattern THROW = Pattern.compile("throw new (\\w+)\\((?:\"[^\"]*\")?\\);");
    private static final int MOST_PARAMETERS = 7;
    private static final int MOST_CLASSES = 12;
    private static final int MOST_FIELDS = 20;
    private static final int MOST_LINES = 60;
    private static final Set<Class<?>> CONSTANTS = Set.of(int.class, long.class, boolean.class, char.class, String.class,
            int[].class, long[].class, char[].class, byte[].class);
    private static final Set<Class<?>> VALUES = Set.of(int.class, long.class, short.class, byte.class, char.class,
            boolean.class, double.class, float.class, int[].class, long[].class, short[].class, byte[].class,
            char[].class, boolean[].class, double[].class, float[].class, String.class);
    private static final Set<String> EXCEPTIONS = Set.of("IllegalStateException", "IllegalArgumentException",
            "IndexOutOfBoundsException", "ArithmeticException", "UnsupportedOperationException",
            "NoSuchElementException", "RuntimeException");
    private static final Set<String> LIBRARY = Set.of("java/lang/Object.<init>", "java/lang/String.length",
            "java/lang/String.charAt", "java/lang/Math.max", "java/lang/Math.min", "java/lang/System.arraycopy");

    private static final Checks checks = new Checks();
    private static final List<Class<?>> classes = new ArrayList<>();

    public static void main(String[] args) throws IOException {
        String document = Files.readString(Path.of(args[0]), StandardCharsets.UTF_8);
        String source = Files.readString(Path.of(args[1], "src/main/java/FerryDraughts.java"), StandardCharsets.UTF_8);
        classes.add(FerryDraughts.class);
        classes.addAll(Arrays.asList(FerryDraughts.class.getDeclaredClasses()));
        face(document);
        nothingElseIsSeen();
        classesInside();
        fields();
        methods();
        library();
        source(source);
        methodsAreShort(source);
        checks.closeWith("LanguageTests");
    }

    /** Rule 1: each call of the document, with its types and exceptions, and no other. */
    private static void face(String document) {
        Matcher face = FACE.matcher(document);
        checks.due("the document has a face", true, face::find);
        Set<String> due = new TreeSet<>();
        Matcher call = CALL.matcher(face.group(1));
        while (call.find()) {
            due.add(told(call.group(1), call.group(2), typesOf(call.group(3)), namesOf(call.group(4))));
        }
        checks.due("the calls of the face", 37, due::size);
        Set<String> seen = new TreeSet<>();
        for (Constructor<?> constructor : FerryDraughts.class.getConstructors()) {
            seen.add(told(null, "FerryDraughts", typesOf(constructor), exceptionsOf(constructor)));
        }
        for (Method method : FerryDraughts.class.getDeclaredMethods()) {
            if (Modifier.isPublic(method.getModifiers())) {
                seen.add(told(method.getReturnType().getSimpleName(), method.getName(), typesOf(method),
                        exceptionsOf(method)));
            }
        }
        checks.due("the face of the class", due, () -> seen);
    }

    private static String told(String type, String name, List<String> types, Set<String> exceptions) {
        return name + types + " " + type + " " + exceptions;
    }

    private static List<String> typesOf(String parameters) {
        List<String> types = new ArrayList<>();
        for (String parameter : parameters.split(", ")) {
            if (!parameter.isEmpty()) {
                types.add(parameter.substring(0, parameter.indexOf(' ')));
            }
        }
        return types;
    }

    private static List<String> typesOf(Executable call) {
        return Arrays.stream(call.getParameterTypes()).map(Class::getSimpleName).collect(Collectors.toList());
    }

    private static Set<String> namesOf(String exceptions) {
        return exceptions == null ? new TreeSet<>() : new TreeSet<>(Arrays.asList(exceptions.split(", ")));
    }

    private static Set<String> exceptionsOf(Executable call) {
        return Arrays.stream(call.getExceptionTypes()).map(Class::getSimpleName).collect(Collectors.toCollection(TreeSet::new));
    }

    private static void nothingElseIsSeen() {
        checks.due("the class is public and final", Modifier.PUBLIC | Modifier.FINAL, FerryDraughts.class::getModifiers);
        checks.due("it extends nothing", Object.class, FerryDraughts.class::getSuperclass);
        checks.due("it implements nothing", 0, () -> FerryDraughts.class.getInterfaces().length);
        Set<String> calls = new Caller().calls();
        for (Field field : FerryDraughts.class.getDeclaredFields()) {
            checks.due("the field " + field.getName() + " is private", true, () -> isPrivate(field));
        }
        for (Class<?> each : classes) {
            for (Method method : each.getDeclaredMethods()) {
                String name = each.getSimpleName() + "." + method.getName();
                boolean isCall = each == FerryDraughts.class && Modifier.isPublic(method.getModifiers());
                checks.due(name + " is a call or no call's name", isCall, () -> calls.contains(method.getName()));
                checks.due(name + " is seen or private", true,
                        () -> isCall || each != FerryDraughts.class || isPrivate(method));
                checks.due(name + " is written there", false, method::isSynthetic);
            }
        }
    }

    private static boolean isPrivate(Member member) {
        return Modifier.isPrivate(member.getModifiers());
    }

    /** Rules 1, 2 and 11. */
    private static void classesInside() {
        checks.due("few classes", true, () -> classes.size() <= MOST_CLASSES);
        for (Class<?> each : classes.subList(1, classes.size())) {
            int modifiers = each.getModifiers();
            checks.due(each + " is static and not seen outside", true, () -> Modifier.isStatic(modifiers)
                    && !Modifier.isPublic(modifiers) && !Modifier.isProtected(modifiers));
            checks.due(each + " has no classes inside", 0, () -> each.getDeclaredClasses().length);
        }
    }

    /** Rules 3, 5 and 11. */
    private static void fields() {
        for (Class<?> each : classes) {
            int count = 0;
            for (Field field : each.getDeclaredFields()) {
                String name = each.getSimpleName() + "." + field.getName();
                if (Modifier.isStatic(field.getModifiers())) {
                    checks.due(name + " is a constant", true,
                            () -> Modifier.isFinal(field.getModifiers()) && CONSTANTS.contains(field.getType()));
                } else {
                    count++;
                    checks.due(name + " is of a type that may be", true,
                            () -> VALUES.contains(field.getType()) || classes.contains(field.getType()));
                }
            }
            int fields = count;
            checks.due(each + " has few fields", true, () -> fields <= MOST_FIELDS);
        }
    }

    /** Rule 11. */
    private static void methods() {
        for (Class<?> each : classes) {
            List<Executable> all = new ArrayList<>(Arrays.asList(each.getDeclaredMethods()));
            all.addAll(Arrays.asList(each.getDeclaredConstructors()));
            for (Executable call : all) {
                checks.due(call + " has few parameters", true, () -> call.getParameterCount() <= MOST_PARAMETERS);
            }
        }
    }

    /** Rules 2, 4 and 6. */
    private static void library() throws IOException {
        for (Class<?> each : classes) {
            ClassFile file = new ClassFile(each);
            checks.due(each + " binds nothing late", false, file::isBoundLate);
            Set<String> calls = file.calls();
            checks.due(each + " calls something", false, calls::isEmpty);
            for (String call : calls) {
                checks.due(each + " may call " + call, true,
                        () -> call.startsWith("FerryDraughts") || LIBRARY.contains(call) || isNewException(call));
            }
        }
    }

    private static boolean isNewException(String call) {
        Matcher made = Pattern.compile("java/(?:lang|util)/(\\w+)\\.<init>").matcher(call);
        return made.matches() && EXCEPTIONS.contains(made.group(1));
    }

    /** Rules 1, 2, 6 and 10. */
    private static void source(String source) {
        String code = withoutComments(source);
        List<String> imports = code.lines().filter(line -> line.contains("import ")).collect(Collectors.toList());
        checks.due("the imports", List.of("import java.util.NoSuchElementException;"), () -> imports);
        for (String word : List.of("package", "try", "catch", "finally", "synchronized", "assert", "toString",
                "hashCode", "equals", "getMessage", "Exact", "null")) {
            checks.due("the word " + word, false, () -> Pattern.compile("\\b" + word + "\\b").matcher(code).find());
        }
        for (String sign : List.of("->", "::", "java.lang.", "static {")) {
            checks.due("the sign " + sign, false, () -> code.contains(sign));
        }
        checks.due("signs above 126", 0L, () -> source.chars().filter(sign -> sign > 126).count());
        Matcher each = Pattern.compile("\\bthrow\\b.*").matcher(code);
        while (each.find()) {
            Matcher written = THROW.matcher(each.group().strip());
            checks.due(each.group(), true, () -> written.matches() && EXCEPTIONS.contains(written.group(1)));
        }
    }

    private static String withoutComments(String source) {
        return source.replaceAll("(?s)/\\*.*?\\*/", "").replaceAll("(?m)//.*$", "");
    }

    /** Rule 11: from the line of its head to the brace that is indented as that. */
    private static void methodsAreShort(String source) {
        List<String> lines = source.lines().collect(Collectors.toList());
        int methods = 0;
        for (int i = 0; i < lines.size(); i++) {
            Matcher head = HEAD.matcher(lines.get(i));
            if (head.matches() && (head.group(1).length() == 4 || head.group(1).length() == 8 && lines.get(i).endsWith("{"))
                    && !lines.get(i).strip().matches("(if|for|while|switch|return|throw|private static final class).*")) {
                methods++;
                int end = lines.subList(i, lines.size()).indexOf(head.group(1) + "}");
                checks.due(lines.get(i).strip() + " is short", true, () -> end >= 0 && end < MOST_LINES);
            }
        }
        int found = methods;
        checks.due("the methods are found", true, () -> found > 100);
    }
}
