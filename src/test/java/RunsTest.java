import java.io.IOException;
import java.lang.reflect.InvocationTargetException;
import java.lang.reflect.Method;
import java.lang.reflect.Modifier;
import java.nio.file.DirectoryStream;
import java.nio.file.Files;
import java.nio.file.Path;
import java.nio.file.Paths;
import java.util.ArrayList;
import java.util.Collections;
import java.util.HashMap;
import java.util.List;
import java.util.Map;

/**
 * Promises 1 to 36: the calls under src/test/runs, each with the answer that is due. The answers were not taken from
 * the class but from a model in another language (NOTES.md tells how it came about).
 */
public final class RunsTest {
    private static final Path RUNS = Paths.get("src", "test", "runs");
    private static final int CALLS_MOST = 512;

    private final Map<String, Method> face = new HashMap<>();
    private GrudgeTown town = new GrudgeTown();
    private int calls = 0;

    private RunsTest() {
        for (Method method : GrudgeTown.class.getDeclaredMethods()) {
            if (Modifier.isPublic(method.getModifiers())) {
                face.put(method.getName(), method);
            }
        }
    }

    public static void main(String[] args) throws IOException, IllegalAccessException {
        List<Path> files = new ArrayList<>();
        try (DirectoryStream<Path> found = Files.newDirectoryStream(RUNS, "*.txt")) {
            for (Path file : found) {
                files.add(file);
            }
        }
        Collections.sort(files);
        Check.due("files of runs", files.size(), 3);
        for (Path file : files) {
            new RunsTest().play(file);
        }
        Check.finish();
    }

    private void play(Path file) throws IOException, IllegalAccessException {
        int line = 0;
        for (String row : Files.readAllLines(file)) {
            line++;
            if (row.equals("new")) {
                town = new GrudgeTown();
                calls = 0;
            } else {
                calls++;
                int between = row.indexOf(" = ");
                String where = file.getFileName() + " line " + line + ": " + row.substring(0, between);
                String got = answer(row.substring(0, between).split(" "));
                String want = row.substring(between + 3);
                Check.due(where + " (" + got + ", due " + want + ")", got.equals(want), true);
                Check.due(where + " is within the calls of one object", calls <= CALLS_MOST, true);
            }
        }
    }

    private String answer(String[] words) throws IllegalAccessException {
        Method method = face.get(words[0]);
        Class<?>[] types = method.getParameterTypes();
        Object[] values = new Object[types.length];
        for (int i = 0; i < types.length; i++) {
            values[i] = valueOf(types[i], words[i + 1]);
        }
        try {
            Object got = method.invoke(town, values);
            return got instanceof Boolean ? (Boolean) got ? "1" : "0" : got.toString();
        } catch (InvocationTargetException e) {
            return "throws." + e.getCause().getClass().getSimpleName();
        }
    }

    private static Object valueOf(Class<?> type, String word) {
        if (type == boolean.class) {
            return word.equals("1");
        }
        return type == long.class ? (Object) Long.parseLong(word) : (Object) Integer.parseInt(word);
    }
}
