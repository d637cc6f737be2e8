import java.lang.reflect.Constructor;
import java.lang.reflect.Method;
import java.lang.reflect.Modifier;
import java.nio.file.Files;
import java.nio.file.Path;
import java.util.ArrayList;
import java.util.List;
import java.util.TreeSet;

/** The public face is the one of the document, and the source keeps to rules that can be seen in it. */
public final class FaceTest {
    private static final Path DOCUMENT = Path.of("..", "shared", "DOC.md");
    private static final Path SOURCE = Path.of("src", "main", "java", "RollerHorses.java");

    public static void main(String[] args) throws Exception {
        face();
        source();
        Due.end();
    }

    private static void face() throws Exception {
        TreeSet<String> due = new TreeSet<>();
        for (String line : Files.readAllLines(DOCUMENT)) {
            if (line.startsWith("    public ")) {
                due.add(line.strip().replaceAll("^public |;$", "").replaceAll("(int|boolean|char) \\w+(?=[,)])", "$1"));
            }
        }
        Due.is(38, "the document's face", () -> due.size());
        TreeSet<String> got = new TreeSet<>();
        for (Constructor<?> maker : RollerHorses.class.getConstructors()) {
            got.add("RollerHorses(" + types(maker.getParameterTypes()) + ")" + thrown(maker.getExceptionTypes()));
        }
        for (Method method : RollerHorses.class.getDeclaredMethods()) {
            if (!Modifier.isPrivate(method.getModifiers())) {
                got.add(method.getReturnType().getSimpleName() + " " + method.getName() + "("
                    + types(method.getParameterTypes()) + ")" + thrown(method.getExceptionTypes()));
            }
        }
        Due.is(String.join("\n", due), "the face", () -> String.join("\n", got));
        Due.is(0, "public fields", () -> RollerHorses.class.getFields().length);
        Due.is(true, "the class is final", () -> Modifier.isFinal(RollerHorses.class.getModifiers()));
    }

    private static String types(Class<?>[] all) {
        List<String> names = new ArrayList<>();
        for (Class<?> one : all) {
            names.add(one.getSimpleName());
        }
        return String.join(", ", names);
    }

    private static String thrown(Class<?>[] all) {
        return all.length == 0 ? "" : " throws " + types(all);
    }

    private static void source() throws Exception {
        String text = Files.readString(SOURCE);
        String[] ruledOut = {"->", "::", "finally", "synchronized", "assert ", "package ", "java.io", "random",
            "System.nanoTime", "System.currentTimeMillis", "Exact(", "toString(", "hashCode("};
        for (String word : ruledOut) {
            Due.is(false, "the source has " + word, () -> text.contains(word));
        }
        Due.is(1, "imports", () -> text.split("\nimport |^import ", -1).length - 1);
        Due.is(true, "the source is of plain characters", () -> text.chars().allMatch(c -> c < 128));
    }
}
