import java.io.IOException;
import java.lang.reflect.Constructor;
import java.lang.reflect.Field;
import java.lang.reflect.Method;
import java.lang.reflect.Modifier;
import java.nio.charset.StandardCharsets;
import java.nio.file.Files;
import java.nio.file.Path;
import java.util.Arrays;
import java.util.Set;
import java.util.TreeSet;

/** The public face, and those rules of LANGUAGE.md that a look at the class or its text can tell. */
public final class FaceTest {
    private static final Check CHECK = new Check("face");
    private static final String[] FACE = {
        "public static final int MidiDesk.NONE",
        "public MidiDesk()",
        "public int MidiDesk.feed(long,int)",
        "public int MidiDesk.read()",
        "public int MidiDesk.event(int,int)",
        "public int MidiDesk.byteOf(int,int)",
        "public long MidiDesk.time(int) throws java.lang.IllegalStateException,java.lang.IllegalArgumentException",
        "public long MidiDesk.rest(int) throws java.lang.IllegalStateException,java.lang.IllegalArgumentException",
        "public int MidiDesk.length(int)",
        "public int MidiDesk.transpose(int,int) throws java.lang.IllegalStateException,java.lang.IllegalArgumentException",
        "public int MidiDesk.grid(int) throws java.lang.IllegalStateException,java.lang.IllegalArgumentException",
        "public int MidiDesk.clear(int) throws java.lang.IllegalStateException,java.lang.IllegalArgumentException",
        "public int MidiDesk.write(int,boolean) throws java.lang.IllegalStateException,java.lang.IllegalArgumentException",
        "public int MidiDesk.written(int)",
        "public int MidiDesk.back()",
        "public int MidiDesk.count(int)",
    };
    private static final String[] BANNED = {"->", "::", "synchronized", "assert ", "finally", "System.",
        "Exact(", "package ", "Thread", "Random", "instanceof", "static {", "double", "float"};

    public static void main(String[] args) throws IOException {
        face();
        fields();
        methodNames();
        text();
        CHECK.close();
    }

    private static void face() {
        Set<String> found = new TreeSet<>();
        for (Field f : MidiDesk.class.getDeclaredFields()) {
            addVisible(found, f.getModifiers(), f.toGenericString());
        }
        for (Method m : MidiDesk.class.getDeclaredMethods()) {
            addVisible(found, m.getModifiers(), m.toGenericString());
        }
        for (Constructor<?> c : MidiDesk.class.getDeclaredConstructors()) {
            addVisible(found, c.getModifiers(), c.toGenericString());
        }
        CHECK.due("face", found.toString(), new TreeSet<>(Arrays.asList(FACE)).toString());
        CHECK.due("modifiers", Modifier.toString(MidiDesk.class.getModifiers()), "public final");
    }

    private static void addVisible(Set<String> found, int modifiers, String text) {
        if (!Modifier.isPrivate(modifiers)) {
            found.add(text);
        }
    }

    private static void fields() {
        for (Class<?> c : MidiDesk.class.getDeclaredClasses()) {
            CHECK.due(c.getName() + " is static", Modifier.isStatic(c.getModifiers()) ? 1 : 0, 1);
            staticsAreFinal(c);
        }
        staticsAreFinal(MidiDesk.class);
    }

    private static void staticsAreFinal(Class<?> c) {
        int own = 0;
        for (Field f : c.getDeclaredFields()) {
            boolean isStatic = Modifier.isStatic(f.getModifiers());
            CHECK.due(f.getName(), !isStatic || Modifier.isFinal(f.getModifiers()) ? 1 : 0, 1);
            own += isStatic ? 0 : 1;
        }
        CHECK.due("fields of " + c.getName(), own <= 20 ? 1 : 0, 1);
    }

    private static void methodNames() {
        Set<String> open = new TreeSet<>();
        for (Method m : MidiDesk.class.getMethods()) {
            open.add(m.getName());
        }
        for (Method m : MidiDesk.class.getDeclaredMethods()) {
            boolean hidden = Modifier.isPrivate(m.getModifiers());
            CHECK.due(m.getName() + " bears a public name",
                    hidden && open.contains(m.getName()) ? 1 : 0, 0);
        }
        for (Class<?> c : MidiDesk.class.getDeclaredClasses()) {
            for (Method m : c.getDeclaredMethods()) {
                CHECK.due(m.getName() + " bears a public name", open.contains(m.getName()) ? 1 : 0, 0);
            }
        }
    }

    private static void text() throws IOException {
        String text = Files.readString(Path.of("src/main/java/MidiDesk.java"), StandardCharsets.UTF_8);
        for (String word : BANNED) {
            CHECK.due("'" + word + "' in the text", text.contains(word) ? 1 : 0, 0);
        }
        for (String line : text.split("\n")) {
            if (line.startsWith("import ")) {
                CHECK.due("import", line, "import java.util.Arrays;");
            }
        }
    }
}
