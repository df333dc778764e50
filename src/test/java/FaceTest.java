import java.io.IOException;
import java.lang.reflect.Constructor;
import java.lang.reflect.Field;
import java.lang.reflect.Method;
import java.lang.reflect.Modifier;
import java.nio.file.Files;
import java.nio.file.Path;
import java.util.HashSet;
import java.util.List;
import java.util.Random;
import java.util.Set;

/** The face as the document tells it, some rules of LANGUAGE.md, and that no call throws anything else. */
public final class FaceTest {
    private static final List<String> METHODS = List.of(
        "int write(int,int)", "int set(int,int)", "int setTool(int,int)", "int input(int,int,int,int)",
        "int target(int,int,int,int,int,int)", "int copy(int,int)", "int setPower(int,int)",
        "void setWays(boolean,boolean)", "int entries()", "int entry(int,int)", "void lie(int,int)",
        "boolean lose(int)", "int build(int)", "int pass(int)", "boolean goesOn()", "int state(int,int)",
        "int result(int,int)", "int about(int,int)", "int proof(int)", "int count(int)", "int needed(int)",
        "int needing(int)", "int steps(int,int)", "int changes()", "int bisect(int)", "int looks()");
    private static final List<String> FORBIDDEN = List.of("import ", "package ", "->", "::", "finally", "synchronized",
        "assert ", "catch", "System.out", "Random", "Thread", "Exact(", "hashCode", "toString",
        "equals(", "var ", "instanceof");

    private FaceTest() { }

    public static void main(String[] args) throws Exception {
        constants();
        members();
        privateNames();
        source();
        anyArguments();
        Expect.close("FaceTest");
    }

    private static void constants() {
        Expect.same("NONE", BuildGrid.NONE, -1);
        int[] due = {BuildGrid.COMPILE, 0, BuildGrid.LINK, 1, BuildGrid.TEST, 2, BuildGrid.OPEN, 0, BuildGrid.READY, 1,
            BuildGrid.RUN, 2, BuildGrid.DONE, 3, BuildGrid.BAD, 4, BuildGrid.BLOCKED, 5};
        for (int i = 0; i < due.length; i += 2) {
            Expect.same("constant " + i / 2, due[i], due[i + 1]);
        }
    }

    private static String face(Method method) {
        StringBuilder text = new StringBuilder(method.getReturnType() + " " + method.getName() + "(");
        for (int i = 0; i < method.getParameterCount(); i++) {
            text.append(i > 0 ? "," : "").append(method.getParameterTypes()[i]);
        }
        return text.append(")").toString();
    }

    private static void members() {
        Expect.yes("public and final", (BuildGrid.class.getModifiers() & (Modifier.PUBLIC | Modifier.FINAL))
            == (Modifier.PUBLIC | Modifier.FINAL));
        Set<String> found = new HashSet<>();
        for (Method method : BuildGrid.class.getDeclaredMethods()) {
            if (Modifier.isPublic(method.getModifiers())) {
                found.add(face(method));
            } else {
                Expect.yes("private: " + method, Modifier.isPrivate(method.getModifiers()));
            }
        }
        Expect.yes("the methods of the document: " + found, found.equals(new HashSet<>(METHODS)));
        for (Field field : BuildGrid.class.getDeclaredFields()) {
            Expect.yes("private or a constant: " + field, Modifier.isPrivate(field.getModifiers())
                || Modifier.isStatic(field.getModifiers()) && Modifier.isFinal(field.getModifiers()));
        }
        Constructor<?>[] constructors = BuildGrid.class.getDeclaredConstructors();
        Expect.yes("one constructor, without parameters", constructors.length == 1
            && constructors[0].getParameterCount() == 0 && Modifier.isPublic(constructors[0].getModifiers()));
        Expect.yes("at most twelve classes", BuildGrid.class.getDeclaredClasses().length < 12);
    }

    private static void privateNames() {
        Set<String> names = new HashSet<>();
        for (String method : METHODS) {
            names.add(method.substring(method.indexOf(' ') + 1, method.indexOf('(')));
        }
        for (Class<?> inside : BuildGrid.class.getDeclaredClasses()) {
            Expect.yes("static: " + inside, Modifier.isStatic(inside.getModifiers()));
            Expect.yes("some twenty fields: " + inside, inside.getDeclaredFields().length <= 20);
            for (Method method : inside.getDeclaredMethods()) {
                Expect.no("a name of its own: " + method, names.contains(method.getName()));
                Expect.yes("at most seven parameters: " + method, method.getParameterCount() <= 7);
            }
        }
        for (Method method : BuildGrid.class.getDeclaredMethods()) {
            Expect.no("a name of its own: " + method,
                Modifier.isPrivate(method.getModifiers()) && names.contains(method.getName()));
        }
    }

    private static void source() throws IOException {
        List<String> lines = Files.readAllLines(Path.of("src/main/java/BuildGrid.java"));
        int longest = 0;
        int length = 0;
        for (String line : lines) {
            String code = line.contains("//") ? line.substring(0, line.indexOf("//")) : line;
            if (!code.strip().startsWith("*") && !code.strip().startsWith("/*")) {
                for (String word : FORBIDDEN) {
                    Expect.no("LANGUAGE.md forbids " + word + " in: " + line, code.contains(word));
                }
            }
            Expect.no("no throw in: " + line, code.contains("throw ") && !code.strip().startsWith("throw new "));
            length = line.isBlank() ? 0 : length + 1;
            longest = Math.max(longest, length);
        }
        Expect.yes("short methods: " + longest, longest <= 60);
    }

    /** Calls with any arguments: what comes is an answer or exactly one of the three exceptions. */
    private static void anyArguments() throws Exception {
        int[] numbers = {Integer.MIN_VALUE, Integer.MIN_VALUE + 1, -65536, -17, -2, -1, 0, 1, 2, 3, 4, 5, 9, 10, 13, 14,
            15, 16, 17, 29, 30, 39, 40, 50, 51, 999, 1000, 16383, 16384, 65535, 65536, 100002, 100003,
            Integer.MAX_VALUE - 16, Integer.MAX_VALUE};
        Random random = new Random(7);
        for (int run = 0; run < 300; run++) {
            BuildGrid grid = new BuildGrid();
            for (int call = 0; call < 512; call++) {
                String face = METHODS.get(random.nextInt(METHODS.size()));
                Method method = find(face);
                Object[] arguments = new Object[method.getParameterCount()];
                for (int i = 0; i < arguments.length; i++) {
                    int small = random.nextInt(run % 4 + 2);
                    arguments[i] = method.getParameterTypes()[i] == boolean.class ? (Object) random.nextBoolean()
                        : (Object) (random.nextInt(8) > 0 ? small : numbers[random.nextInt(numbers.length)]);
                }
                checkCall(grid, method, arguments);
            }
        }
    }

    private static Method find(String face) {
        for (Method method : BuildGrid.class.getDeclaredMethods()) {
            if (Modifier.isPublic(method.getModifiers()) && face(method).equals(face)) {
                return method;
            }
        }
        throw new IllegalStateException("no " + face);
    }

    private static void checkCall(BuildGrid grid, Method method, Object[] arguments) throws Exception {
        try {
            method.invoke(grid, arguments);
            Expect.yes("an answer", true);
        } catch (java.lang.reflect.InvocationTargetException e) {
            Class<?> thrown = e.getCause().getClass();
            Expect.yes(method.getName() + java.util.Arrays.toString(arguments) + " threw " + e.getCause(),
                List.of(method.getExceptionTypes()).contains(thrown));
        }
    }
}
