import java.io.IOException;
import java.lang.reflect.Constructor;
import java.lang.reflect.Field;
import java.lang.reflect.Method;
import java.lang.reflect.Modifier;
import java.nio.file.Files;
import java.nio.file.Path;
import java.util.ArrayList;
import java.util.Arrays;
import java.util.HashSet;
import java.util.List;
import java.util.Set;
import java.util.TreeSet;

/** The public face, word for word, and those rules of LANGUAGE.md that can be read off the class or its text. */
public final class FaceTest {
    private static final String INDEX = "IndexOutOfBoundsException";
    private static final String ARGUMENT = ",IllegalArgumentException";
    private static final String STATE = ",IllegalStateException";
    private static final String[] FACE = {
        "void hang(int,int,int,int,int) " + INDEX + ARGUMENT + STATE,
        "void unhang(int) " + INDEX + STATE,
        "void box(int,int,int,int) " + INDEX + ARGUMENT + STATE,
        "void station(int,int) " + INDEX + STATE,
        "int move(int,int,int,int) " + INDEX + ARGUMENT + STATE,
        "void after(int,int,int,int) " + INDEX + ARGUMENT + STATE,
        "void clear(int) " + INDEX + STATE,
        "boolean undo() ",
        "int arm(int) " + INDEX + STATE,
        "void handle(int,boolean) " + INDEX,
        "int go(int) " + INDEX + STATE,
        "int halt(int) " + INDEX,
        "int tick(int) IllegalArgumentException",
        "void cell(int,int) " + INDEX + ARGUMENT,
        "void lose(int,int) " + INDEX + ARGUMENT,
        "void stick(int,boolean) " + INDEX,
        "boolean clearReason(int) " + INDEX,
        "int hoist(int,int) ",
        "int piece(int,int) ",
        "int cue(int,int) ",
        "int moveOf(int,int,int) ",
        "boolean meets(int,int) ",
        "int rehearse(int,int,int) ",
        "int version() ",
    };
    /** Words of things that LANGUAGE.md rules out in every form. */
    private static final String[] BANNED = {
        "package ", "::", "Exact(", "synchronized", "assert ", "finally", "getMessage", "protected ", "static {",
        "Math.random", "nanoTime", "currentTimeMillis", "Thread", "java.io", "java.nio", "java.net",
    };

    private static final Check check = new Check("FaceTest");

    public static void main(String[] args) throws IOException {
        face();
        constants();
        namesOfPrivateMethods();
        sizes();
        text(Path.of(args.length > 0 ? args[0] : ".", "src/main/java/FlyingDesk.java"));
        check.end();
    }

    private static void face() {
        check.yes("the class is public and final",
            Modifier.isPublic(FlyingDesk.class.getModifiers()) && Modifier.isFinal(FlyingDesk.class.getModifiers()));
        Set<String> found = new TreeSet<>();
        for (Method method : FlyingDesk.class.getDeclaredMethods()) {
            if (!method.isSynthetic() && !Modifier.isPrivate(method.getModifiers())) {
                check.yes(method.getName() + " is public", Modifier.isPublic(method.getModifiers()));
                check.no(method.getName() + " is static", Modifier.isStatic(method.getModifiers()));
                found.add(method.getReturnType() + " " + method.getName() + "("
                    + names(method.getParameterTypes()) + ") " + names(method.getExceptionTypes()));
            }
        }
        check.same("the methods", new TreeSet<>(Arrays.asList(FACE)).toString(), found.toString());
        Constructor<?>[] made = FlyingDesk.class.getDeclaredConstructors();
        check.same("constructors", 1, made.length);
        check.yes("the constructor is public", Modifier.isPublic(made[0].getModifiers()));
        check.same("the constructor's parameters", 0, made[0].getParameterCount());
        for (Class<?> inside : FlyingDesk.class.getDeclaredClasses()) {
            check.yes(inside.getSimpleName() + " is static and not public",
                Modifier.isStatic(inside.getModifiers()) && !Modifier.isPublic(inside.getModifiers()));
        }
    }

    private static void constants() {
        check.same("NONE", -1, FlyingDesk.NONE);
        for (Class<?> type : classes()) {
            for (Field field : type.getDeclaredFields()) {
                String name = type.getSimpleName() + "." + field.getName();
                int is = field.getModifiers();
                check.yes(name + " is final if it is static", !Modifier.isStatic(is) || Modifier.isFinal(is));
                boolean isNone = name.equals("FlyingDesk.NONE");
                check.yes(name + " is private if it is the desk's",
                    type != FlyingDesk.class || isNone || Modifier.isPrivate(is));
            }
        }
    }

    private static void namesOfPrivateMethods() {
        Set<String> faceNames = new HashSet<>();
        for (Method method : FlyingDesk.class.getDeclaredMethods()) {
            if (Modifier.isPublic(method.getModifiers())) {
                faceNames.add(method.getName());
            }
        }
        for (Class<?> type : classes()) {
            for (Method method : type.getDeclaredMethods()) {
                check.yes(method.getName() + " of " + type.getSimpleName() + " has a name of its own",
                    Modifier.isPublic(method.getModifiers()) || !faceNames.contains(method.getName()));
            }
        }
    }

    private static void sizes() {
        check.yes("at most twelve classes", classes().size() <= 12);
        for (Class<?> type : classes()) {
            int fields = 0;
            for (Field field : type.getDeclaredFields()) {
                fields += Modifier.isStatic(field.getModifiers()) ? 0 : 1;
            }
            check.yes(type.getSimpleName() + " has at most twenty fields", fields <= 20);
            for (Method method : type.getDeclaredMethods()) {
                check.yes(method.getName() + " takes at most seven", method.getParameterCount() <= 7);
                check.no(method.getName() + " is a lambda", method.getName().startsWith("lambda$"));
            }
        }
    }

    private static void text(Path file) throws IOException {
        StringBuilder code = new StringBuilder();
        for (String line : Files.readAllLines(file)) {
            String bare = line.strip();
            if (!bare.startsWith("/**") && !bare.startsWith("*") && !bare.startsWith("//")) {
                code.append(line).append('\n');
            }
        }
        for (String word : BANNED) {
            check.no("the program's text holds '" + word + "'", code.indexOf(word) >= 0);
        }
    }

    private static List<Class<?>> classes() {
        List<Class<?>> all = new ArrayList<>(Arrays.asList(FlyingDesk.class.getDeclaredClasses()));
        all.add(FlyingDesk.class);
        return all;
    }

    private static String names(Class<?>[] types) {
        List<String> all = new ArrayList<>();
        for (Class<?> type : types) {
            all.add(type.getSimpleName());
        }
        return String.join(",", all);
    }
}
