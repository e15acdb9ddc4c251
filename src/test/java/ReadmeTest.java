import java.io.IOException;
import java.lang.reflect.Method;
import java.lang.reflect.Modifier;
import java.nio.file.Files;
import java.nio.file.Path;
import java.util.ArrayList;
import java.util.List;
import java.util.Set;
import java.util.TreeSet;
import java.util.regex.Matcher;
import java.util.regex.Pattern;

/**
 * What README.md says of answers is what the class answers: does every call of its examples. To be
 * run from the project's directory.
 */
public final class ReadmeTest {
    private static final String MADE = "WaveOffsets wave = new WaveOffsets();";
    /** A call, and behind it the answer that is due and perhaps some words. */
    private static final Pattern CALL =
            Pattern.compile("wave\\.(\\w+)\\(([^()]*)\\);\\s*// (-?\\d+|true|false)(:.*)?");
    private static final Set<String> called = new TreeSet<>();

    public static void main(String[] args) {
        Check.run(ReadmeTest.class);
    }

    static void examplesAnswerAsTheySay() throws Exception {
        List<String> lines = exampleLines();
        Check.due("there are examples", true, lines.contains(MADE));
        WaveOffsets wave = null;
        for (String line : lines) {
            if (line.equals(MADE)) {
                wave = new WaveOffsets();
            } else {
                doCall(line, wave);
            }
        }
        for (Method m : WaveOffsets.class.getDeclaredMethods()) {
            if (Modifier.isPublic(m.getModifiers())) {
                Check.due("an example calls " + m.getName(), true, called.contains(m.getName()));
            }
        }
    }

    static void testsThatItNamesAreThere() throws IOException {
        Matcher names = Pattern.compile("`(\\w+Test)`").matcher(Files.readString(Path.of("README.md")));
        int named = 0;
        while (names.find()) {
            named++;
            Path file = Path.of("src/test/java", names.group(1) + ".java");
            Check.due(file + " is there", true, Files.exists(file));
        }
        Check.due("tests are named", true, named > 0);
    }

    private static List<String> exampleLines() throws IOException {
        List<String> lines = new ArrayList<>();
        boolean inside = false;
        for (String line : Files.readAllLines(Path.of("README.md"))) {
            if (line.startsWith("```")) {
                inside = line.equals("```java");
            } else if (inside && !line.isBlank()) {
                lines.add(line);
            }
        }
        return lines;
    }

    private static void doCall(String line, WaveOffsets wave) throws Exception {
        Matcher call = CALL.matcher(line);
        boolean isRead = wave != null && call.matches();
        Check.due("a call with its answer: " + line, true, isRead);
        if (!isRead) {
            return;
        }
        called.add(call.group(1));
        String got = String.valueOf(answer(wave, call.group(1), call.group(2)));
        Check.due(line + " (answered " + got + ")", true, got.equals(call.group(3)));
    }

    private static Object answer(WaveOffsets wave, String name, String told) throws Exception {
        String[] texts = told.isEmpty() ? new String[0] : told.split(", ");
        Class<?>[] types = new Class<?>[texts.length];
        Object[] values = new Object[texts.length];
        for (int i = 0; i < texts.length; i++) {
            boolean isLong = texts[i].endsWith("L");
            types[i] = isLong ? long.class : int.class;
            values[i] = isLong
                    ? (Object) Long.valueOf(texts[i].substring(0, texts[i].length() - 1))
                    : (Object) Integer.valueOf(texts[i]);
        }
        return WaveOffsets.class.getDeclaredMethod(name, types).invoke(wave, values);
    }
}
