import java.io.IOException;
import java.lang.reflect.Constructor;
import java.lang.reflect.Field;
import java.lang.reflect.Method;
import java.lang.reflect.Modifier;
import java.nio.file.Files;
import java.nio.file.Path;
import java.util.ArrayList;
import java.util.Arrays;
import java.util.HashSet;
import java.util.List;
import java.util.Set;
import java.util.TreeSet;

/** That the class has the document's face and no more, and keeps to LANGUAGE.md where text tells. */
public final class FaceTest {
    private static final Check CHECK = new Check();
    private static final String SOURCE = "src/main/java/RatchetGroup.java";
    private static final String[] FACE = {
        "int offer(int) IndexOutOfBoundsException IllegalStateException",
        "int add(int,int) IndexOutOfBoundsException IllegalStateException",
        "int remove(int,int) IndexOutOfBoundsException IllegalStateException",
        "int update(int) IndexOutOfBoundsException IllegalStateException",
        "int commit(int,boolean) IndexOutOfBoundsException IllegalStateException",
        "int come(int) IndexOutOfBoundsException IllegalStateException",
        "int compromise(int) IndexOutOfBoundsException",
        "int member(int,int)", "boolean holds(int,int)", "boolean has(int)", "int node(int,int,int)",
        "int epoch(int,int)", "int epochs()", "int waiting()", "boolean isKnown(int)",
        "boolean isOpen(int,int)", "int known()"};
    private static final String[] RULED_OUT = {
        "->", "::", "catch", "finally", "synchronized", "assert", "Exact(", "protected ", "static {",
        "System.", "hashCode", "toString", "HashMap", "package "};

    public static void main(String[] args) throws IOException {
        face();
        noOtherMember();
        source();
        CHECK.finish();
    }

    private static void face() {
        Set<String> got = new TreeSet<>();
        for (Method m : RatchetGroup.class.getDeclaredMethods()) {
            if (Modifier.isPublic(m.getModifiers())) {
                got.add(signature(m));
            }
        }
        Set<String> due = new TreeSet<>(Arrays.asList(FACE));
        CHECK.yes("the public methods " + got + " are " + due, got.equals(due));
        int modifiers = RatchetGroup.class.getModifiers();
        CHECK.yes("the class is public and final", Modifier.isPublic(modifiers) && Modifier.isFinal(modifiers));
    }

    private static String signature(Method m) {
        List<String> parameters = new ArrayList<>();
        for (Class<?> type : m.getParameterTypes()) {
            parameters.add(type.getSimpleName());
        }
        StringBuilder text = new StringBuilder(m.getReturnType().getSimpleName());
        text.append(' ').append(m.getName()).append('(').append(String.join(",", parameters)).append(')');
        for (Class<?> type : m.getExceptionTypes()) {
            text.append(' ').append(type.getSimpleName());
        }
        return text.toString();
    }

    private static void noOtherMember() {
        Set<String> publicNames = new HashSet<>();
        for (String line : FACE) {
            publicNames.add(line.substring(line.indexOf(' ') + 1, line.indexOf('(')));
        }
        for (Method m : RatchetGroup.class.getDeclaredMethods()) {
            boolean isPrivate = Modifier.isPrivate(m.getModifiers());
            CHECK.yes(m + " is private or of the face", isPrivate != publicNames.contains(m.getName()));
        }
        for (Field f : RatchetGroup.class.getDeclaredFields()) {
            CHECK.yes(f + " is private or NONE", Modifier.isPrivate(f.getModifiers()) != f.getName().equals("NONE"));
            CHECK.yes(f + " is final if static", !Modifier.isStatic(f.getModifiers()) || Modifier.isFinal(f.getModifiers()));
        }
        Constructor<?>[] made = RatchetGroup.class.getDeclaredConstructors();
        CHECK.yes("one public constructor", made.length == 1 && Modifier.isPublic(made[0].getModifiers())
            && made[0].getParameterCount() == 0);
        for (Class<?> c : RatchetGroup.class.getDeclaredClasses()) {
            CHECK.yes(c + " is static and not public", Modifier.isStatic(c.getModifiers())
                && !Modifier.isPublic(c.getModifiers()) && !Modifier.isProtected(c.getModifiers()));
            for (Method m : c.getDeclaredMethods()) {
                CHECK.no(m + " bears a public name", publicNames.contains(m.getName()));
            }
        }
    }

    private static void source() throws IOException {
        String text = Files.readString(Path.of(SOURCE));
        for (String word : RULED_OUT) {
            CHECK.no("the source has " + word, text.contains(word));
        }
        for (String line : text.split("\n")) {
            if (line.startsWith("import ")) {
                CHECK.yes(line, line.equals("import java.util.ArrayList;") || line.equals("import java.util.Arrays;"));
            }
        }
    }
}
