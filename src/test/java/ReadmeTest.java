import java.io.IOException;
import java.lang.reflect.InvocationTargetException;
import java.lang.reflect.Method;
import java.lang.reflect.Modifier;
import java.nio.file.Files;
import java.nio.file.Path;
import java.util.Set;
import java.util.TreeSet;
import java.util.regex.Matcher;
import java.util.regex.Pattern;

/** The run that README.md tells is made as it stands there: each answer is due, and no call is left out. */
public final class ReadmeTest {
    private static final Pattern CALL = Pattern.compile("(\\w+)\\(([-0-9, ]*)\\) +(\\S+) .*");
    private static final String TEXT = "text ";

    private final CupPot pot = new CupPot();
    private final Set<String> told = new TreeSet<>();

    public static void main(String[] args) throws IOException, IllegalAccessException {
        ReadmeTest test = new ReadmeTest();
        boolean inRun = false;
        for (String line : Files.readAllLines(Path.of("README.md"))) {
            if (line.startsWith("```")) {
                inRun = line.equals("```text");
            } else if (inRun) {
                test.look(line);
            }
        }
        for (Method m : CupPot.class.getDeclaredMethods()) {
            if (Modifier.isPublic(m.getModifiers())) {
                Check.due("README.md tells " + m.getName(), true, test.told.contains(m.getName()));
            }
        }
        Check.finish("ReadmeTest");
    }

    private void look(String line) throws IllegalAccessException {
        if (line.startsWith(TEXT)) {
            Check.tell(pot, line.substring(TEXT.length()).strip());
            return;
        }
        Matcher m = CALL.matcher(line);
        Check.due("a call, its answer, words: " + line, true, m.matches());
        if (m.matches()) {
            told.add(m.group(1));
            String answer = answerOf(m.group(1), m.group(2));
            Check.due(line + " (answered " + answer + ")", true, m.group(3).equals(answer));
        }
    }

    private String answerOf(String name, String list) throws IllegalAccessException {
        String[] words = list.isBlank() ? new String[0] : list.split(", *");
        Object[] numbers = new Object[words.length];
        for (int i = 0; i < words.length; i++) {
            numbers[i] = Integer.valueOf(words[i]);
        }
        for (Method m : CupPot.class.getDeclaredMethods()) {
            if (m.getName().equals(name) && m.getParameterCount() == numbers.length) {
                try {
                    return String.valueOf(m.invoke(pot, numbers));
                } catch (InvocationTargetException e) {
                    return e.getCause().getClass().getSimpleName();
                }
            }
        }
        return "no such call";
    }
}
