import java.io.IOException;
import java.lang.reflect.Constructor;
import java.lang.reflect.Field;
import java.lang.reflect.Method;
import java.lang.reflect.Modifier;
import java.nio.file.Files;
import java.nio.file.Path;
import java.util.ArrayList;
import java.util.HashSet;
import java.util.List;
import java.util.Set;
import java.util.TreeSet;

/** The public face as the document's code block has it, and the rules of the language that a test can see. */
public final class FaceTest {
    private static final Path SOURCE = Path.of("src/main/java/VacuumSequencer.java");
    private static final Path DOCUMENT = Path.of("../shared/DOC.md");

    public static void main(String[] args) throws IOException {
        face();
        members();
        words();
        Check.end();
    }

    /** A signature without the names of its parameters, told alike from the document and from the class. */
    private static String told(Method m) {
        List<String> types = new ArrayList<>();
        for (Class<?> type : m.getParameterTypes()) {
            types.add(type.getSimpleName());
        }
        List<String> thrown = new ArrayList<>();
        for (Class<?> type : m.getExceptionTypes()) {
            thrown.add(type.getSimpleName());
        }
        return m.getReturnType().getSimpleName() + " " + m.getName() + types + thrown;
    }

    private static String told(String line) {
        String[] parts = line.trim().replace("public ", "").replace(";", "").split("[()]");
        List<String> types = new ArrayList<>();
        for (String parameter : parts.length > 1 && !parts[1].isEmpty() ? parts[1].split(", ") : new String[0]) {
            types.add(parameter.split(" ")[0]);
        }
        List<String> thrown = new ArrayList<>();
        if (parts.length > 2) {
            thrown.addAll(List.of(parts[2].replace(" throws ", "").split(", ")));
        }
        return parts[0] + types + thrown;
    }

    private static void face() throws IOException {
        Set<String> due = new TreeSet<>();
        for (String line : Files.readAllLines(DOCUMENT)) {
            if (line.startsWith("    public ") && line.contains("(") && !line.contains("VacuumSequencer()")) {
                due.add(told(line));
            }
        }
        Set<String> got = new TreeSet<>();
        for (Method m : VacuumSequencer.class.getDeclaredMethods()) {
            if (Modifier.isPublic(m.getModifiers())) {
                got.add(told(m));
            }
        }
        Check.due("methods of the face", due.size(), 50);
        Check.due("the face", String.join("\n", got), String.join("\n", due));
        Constructor<?>[] constructors = VacuumSequencer.class.getDeclaredConstructors();
        Check.due("constructors", constructors.length, 1);
        Check.due("parameters of the constructor", constructors[0].getParameterCount(), 0);
        Check.due("the constructor is public", Modifier.isPublic(constructors[0].getModifiers()), true);
        Check.due("the class is final", Modifier.isFinal(VacuumSequencer.class.getModifiers()), true);
    }

    private static void members() {
        Set<String> face = new HashSet<>();
        for (Method m : VacuumSequencer.class.getDeclaredMethods()) {
            if (Modifier.isPublic(m.getModifiers())) {
                face.add(m.getName());
            } else {
                Check.due(m.getName() + " is private", Modifier.isPrivate(m.getModifiers()), true);
            }
        }
        for (Field f : VacuumSequencer.class.getDeclaredFields()) {
            boolean constant = f.getName().equals("NONE");
            Check.due(f.getName() + " is private", Modifier.isPrivate(f.getModifiers()), !constant);
        }
        List<Class<?>> classes = new ArrayList<>(List.of(VacuumSequencer.class.getDeclaredClasses()));
        for (Class<?> inner : classes) {
            Check.due(inner.getName() + " is static", Modifier.isStatic(inner.getModifiers()), true);
            Check.due(inner.getName() + " is hidden", Modifier.isPublic(inner.getModifiers()), false);
            for (Method m : inner.getDeclaredMethods()) {
                String what = m.getName() + " of " + inner.getName() + " has a public name";
                Check.due(what, face.contains(m.getName()), false);
            }
        }
        classes.add(VacuumSequencer.class);
        Check.due("at most twelve classes", classes.size() <= 12, true);
        for (Class<?> one : classes) {
            int fields = 0;
            for (Field f : one.getDeclaredFields()) {
                boolean shared = Modifier.isStatic(f.getModifiers());
                fields += shared ? 0 : 1;
                boolean loose = shared && !Modifier.isFinal(f.getModifiers());
                Check.due(f.getName() + " is static and not final", loose, false);
            }
            Check.due("at most twenty fields in " + one.getName(), fields <= 20, true);
            for (Method m : one.getDeclaredMethods()) {
                Check.due("at most seven parameters of " + m.getName(), m.getParameterCount() <= 7, true);
            }
        }
    }

    private static void words() throws IOException {
        String source = Files.readString(SOURCE).replaceAll("(?s)/\\*.*?\\*/|//[^\\n]*", "");
        for (String word : List.of("package ", "catch", "finally", "synchronized", "assert ", "->", "::", "static {",
                "@", "System.out", "Random", "nanoTime", "equals", "hashCode", "toString", "protected", "Exact(")) {
            Check.due("the program has " + word, source.contains(word), false);
        }
        Check.due("imports", source.split("\nimport |^import ").length - 1, 1);
        Check.due("one import", source.contains("import java.util.NoSuchElementException;"), true);
        for (int i = 0; i < source.length(); i++) {
            if (source.charAt(i) > 126) {
                Check.due("sign " + (int) source.charAt(i), false, true);
            }
        }
    }
}
