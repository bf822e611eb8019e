import java.io.IOException;
import java.lang.reflect.Constructor;
import java.lang.reflect.Field;
import java.lang.reflect.Method;
import java.lang.reflect.Modifier;
import java.nio.file.Files;
import java.nio.file.Path;
import java.util.ArrayList;
import java.util.List;
import java.util.TreeSet;

/** The document's face and no other member, and what LANGUAGE.md lets be seen from outside. */
public final class FaceTest {
    private static final String[] FACE = {
        "public void clear()",
        "public int classOf(int,int,int) throws IndexOutOfBoundsException",
        "public int count(int) throws IndexOutOfBoundsException",
        "public int fault(int,int) throws IndexOutOfBoundsException",
        "public int faults()",
        "public int gate(int,int,int) throws IndexOutOfBoundsException,IllegalStateException,IllegalArgumentException",
        "public int input() throws IllegalStateException",
        "public int left(int) throws IndexOutOfBoundsException",
        "public int output(int) throws IndexOutOfBoundsException,IllegalStateException",
        "public int pattern(int) throws IndexOutOfBoundsException",
        "public void reset()",
        "public int run()",
        "public int shown(int) throws IndexOutOfBoundsException",
        "public boolean shows(int,int) throws IndexOutOfBoundsException",
        "public int simulate(int)",
        "public int slow(int,int,int) throws IndexOutOfBoundsException",
        "public int test(int) throws IndexOutOfBoundsException",
        "public int value(int,int) throws IndexOutOfBoundsException"
    };
    private static final String[] NOT_IN_THE_SOURCE = {
        "->", "::", "import ", "package ", "catch", "finally", "synchronized", "assert", "static {", "System.out",
        "currentTime", "nanoTime", "Thread", "Random", "hashCode", "Exact"
    };

    private static final List<String> CONSTANTS = List.of(
        "int", "long", "boolean", "char", "String", "int[]", "long[]", "char[]", "byte[]");

    private static final Check CHECK = new Check("FaceTest");

    private FaceTest() {
    }

    private static String plain(Object member) {
        return member.toString().replace("java.lang.", "").replace("FaultSearch.", "");
    }

    private static void members() {
        Class<FaultSearch> face = FaultSearch.class;
        CHECK.same("the class", Modifier.toString(face.getModifiers()), "public final");
        List<String> seen = new ArrayList<>();
        TreeSet<String> names = new TreeSet<>();
        for (Method method : face.getDeclaredMethods()) {
            if (!Modifier.isPrivate(method.getModifiers())) {
                seen.add(plain(method));
                names.add(method.getName());
            }
        }
        CHECK.same("methods", new TreeSet<>(seen).toString(), new TreeSet<>(List.of(FACE)).toString());
        for (Constructor<?> constructor : face.getDeclaredConstructors()) {
            CHECK.same("constructor", plain(constructor), "public FaultSearch()");
        }
        fields(face);
        privateNames(face, names);
    }

    private static void fields(Class<?> face) {
        List<String> seen = new ArrayList<>();
        for (Field field : face.getDeclaredFields()) {
            if (!Modifier.isPrivate(field.getModifiers())) {
                seen.add(plain(field));
            }
        }
        CHECK.same("fields", seen.toString(), "[public static final int NONE]");
        CHECK.same("superclass", face.getSuperclass().getName(), "java.lang.Object");
        CHECK.is("interfaces", face.getInterfaces().length, 0);
    }

    /** What rules 5 and 11 say of the class and of each class inside. */
    private static void rules(Class<?> of) {
        int fields = 0;
        for (Field field : of.getDeclaredFields()) {
            if (Modifier.isStatic(field.getModifiers())) {
                CHECK.is(field + " is final", Modifier.isFinal(field.getModifiers()), true);
                CHECK.is(field + " is a constant", CONSTANTS.contains(field.getType().getSimpleName()), true);
            } else {
                fields++;
            }
        }
        CHECK.is(of + " has some twenty fields", fields <= 20, true);
        for (Method method : of.getDeclaredMethods()) {
            CHECK.is(method + " takes at most seven", method.getParameterCount() <= 7, true);
        }
    }

    private static void rulesOfAll() {
        Class<?>[] inside = FaultSearch.class.getDeclaredClasses();
        CHECK.is("some twelve classes", inside.length <= 11, true);
        rules(FaultSearch.class);
        for (Class<?> of : inside) {
            rules(of);
        }
    }

    private static void privateNames(Class<?> face, TreeSet<String> names) {
        for (Method method : face.getDeclaredMethods()) {
            if (Modifier.isPrivate(method.getModifiers())) {
                CHECK.is(method + " has a name of the face", names.contains(method.getName()), false);
            }
        }
        for (Class<?> inside : face.getDeclaredClasses()) {
            CHECK.is(inside + " is static", Modifier.isStatic(inside.getModifiers()), true);
            CHECK.is(inside + " is not public", Modifier.isPublic(inside.getModifiers()), false);
            for (Method method : inside.getDeclaredMethods()) {
                CHECK.is(method + " has a name of the face", names.contains(method.getName()), false);
            }
        }
    }

    private static void source(Path path) throws IOException {
        String text = Files.readString(path);
        for (String word : NOT_IN_THE_SOURCE) {
            CHECK.is("'" + word + "' in the source", text.contains(word), false);
        }
    }

    public static void main(String[] args) throws IOException {
        members();
        rulesOfAll();
        source(Path.of(args.length > 0 ? args[0] : "src/main/java/FaultSearch.java"));
        CHECK.end();
    }
}
