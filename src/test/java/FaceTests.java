import java.io.IOException;
import java.lang.reflect.Array;
import java.lang.reflect.Constructor;
import java.lang.reflect.Field;
import java.lang.reflect.Method;
import java.lang.reflect.Modifier;
import java.nio.file.Files;
import java.nio.file.Path;
import java.util.Arrays;
import java.util.Collections;
import java.util.IdentityHashMap;
import java.util.Set;
import java.util.TreeSet;
import java.util.regex.Matcher;
import java.util.regex.Pattern;

/** The public face, and those rules of the language that a program can check. */
public final class FaceTests {
    private static final Path SOURCE = Path.of("src/main/java/WiringContainer.java");
    private static final String[] FACE = {
        "int declare(int, int, boolean, boolean)", "int manage(int, int, int, int)",
        "int produce(int, int, int, int, int)", "int inject(int, int, int)", "int types(int)", "int fits(int, int)",
        "int candidates(int, int)", "int resolve(int, int)", "int deploy()", "int cost(int)", "boolean begin(int)",
        "int end(int)", "int obtain(int, int, int)", "int call(int, int, int)", "int destroy(int)", "int shutdown()",
        "int beanOf(int)", "int owner(int)", "int destroyed(int)", "int live()",
    };
    private static final String[] CONSTANTS = {
        "BAD=-1", "FULL=-2", "CLOSED=-3", "UNSATISFIED=-4", "AMBIGUOUS=-5", "UNPROXYABLE=-6", "INACTIVE=-7", "GONE=-8",
    };

    private static int wrong = 0;

    private static void due(String what, Object got, Object want) {
        if (!got.equals(want)) {
            wrong++;
            System.out.println(what + ": is " + got + ", due is " + want);
        }
    }

    public static void main(String[] args) throws IOException, IllegalAccessException {
        face();
        innerClasses();
        source();
        room();
        System.out.println(wrong == 0 ? "the face and the source are as due" : wrong + " things are not as due");
        if (wrong != 0) {
            System.exit(1);
        }
    }

    private static void face() throws IllegalAccessException {
        Class<?> type = WiringContainer.class;
        due("public and final", Modifier.toString(type.getModifiers()), "public final");
        Set<String> methods = new TreeSet<>();
        Set<String> publicNames = new TreeSet<>();
        Set<String> privateNames = new TreeSet<>();
        for (Method method : type.getDeclaredMethods()) {
            if (Modifier.isPrivate(method.getModifiers())) {
                privateNames.add(method.getName());
                continue;
            }
            publicNames.add(method.getName());
            due(method + " is public alone", Modifier.toString(method.getModifiers()), "public");
            StringBuilder told = new StringBuilder(method.getReturnType() + " " + method.getName() + "(");
            for (Class<?> parameter : method.getParameterTypes()) {
                told.append(told.charAt(told.length() - 1) == '(' ? "" : ", ").append(parameter);
            }
            methods.add(told.append(")").toString());
        }
        due("methods", methods, new TreeSet<>(Arrays.asList(FACE)));
        privateNames.retainAll(publicNames);
        due("names both public and private", privateNames, new TreeSet<>());
        Set<String> constants = new TreeSet<>();
        for (Field field : type.getDeclaredFields()) {
            if (!Modifier.isPrivate(field.getModifiers())) {
                due(field.getName(), Modifier.toString(field.getModifiers()), "public static final");
                constants.add(field.getName() + "=" + field.getInt(null));
            }
        }
        due("constants", constants, new TreeSet<>(Arrays.asList(CONSTANTS)));
        Constructor<?>[] constructors = type.getDeclaredConstructors();
        due("constructors", constructors.length, 1);
        due("constructor's parameters", constructors[0].getParameterCount(), 0);
        due("constructor is public", Modifier.toString(constructors[0].getModifiers()), "public");
    }

    private static void innerClasses() {
        Class<?>[] inner = WiringContainer.class.getDeclaredClasses();
        due("twelve classes at most", inner.length < 12, true);
        for (Class<?> type : inner) {
            due(type + " is static", Modifier.isStatic(type.getModifiers()), true);
            due(type + " is not public", Modifier.isPublic(type.getModifiers()), false);
            due(type + " has few fields", type.getDeclaredFields().length <= 20, true);
            for (Method method : type.getDeclaredMethods()) {
                due(method + " has few parameters", method.getParameterCount() <= 7, true);
            }
            for (Field field : type.getDeclaredFields()) {
                boolean mutable = Modifier.isStatic(field.getModifiers()) && !Modifier.isFinal(field.getModifiers());
                due(field + " is static and changes", mutable, false);
            }
        }
    }

    private static void source() throws IOException {
        String code = Files.readString(SOURCE)
                .replaceAll("(?s)/\\*.*?\\*/", " ").replaceAll("//[^\n]*", " ");
        Pattern refused = Pattern.compile(
                "\\b(throw|throws|try|catch|synchronized|assert|package|protected|hashCode)\\b|->|::|Exact\\b");
        Matcher found = refused.matcher(code);
        while (found.find()) {
            due("a word that the language refuses", found.group(), "none");
        }
        // Calls make nothing here: every array stands in a field's initialiser, every table in the constructor.
        int made = code.split("\\bnew\\b", -1).length - 1;
        int inFields = 0;
        for (String line : code.split("\n")) {
            boolean field = line.matches("\\s*private final \\S+ \\w+ = new .*;");
            boolean table = line.matches("\\s{8}\\w+ = new \\w+Table\\(.*\\);|\\s{8}plan = new Plan\\(.*\\);");
            inFields += field || table ? 1 : 0;
        }
        due("objects are made in constructors alone", made, inFields);
    }

    /** One object must be small: a run's room has 600,000 objects and 7.3 million elements in all. */
    private static void room() throws IllegalAccessException {
        long[] counted = {0, 0};
        count(new WiringContainer(), counted, Collections.newSetFromMap(new IdentityHashMap<>()));
        due("at most 100 objects (" + counted[0] + ")", counted[0] <= 100, true);
        due("at most 3000 fields and elements (" + counted[1] + ")", counted[1] <= 3000, true);
    }

    private static void count(Object object, long[] counted, Set<Object> seen) throws IllegalAccessException {
        if (object == null || !seen.add(object)) {
            return;
        }
        counted[0]++;
        if (object.getClass().isArray()) {
            counted[1] += Array.getLength(object);
            for (int i = 0; object instanceof Object[] && i < Array.getLength(object); i++) {
                count(Array.get(object, i), counted, seen);
            }
            return;
        }
        for (Field field : object.getClass().getDeclaredFields()) {
            if (!Modifier.isStatic(field.getModifiers())) {
                counted[1]++;
                field.setAccessible(true);
                if (!field.getType().isPrimitive()) {
                    count(field.get(object), counted, seen);
                }
            }
        }
    }
}
