import java.lang.reflect.Method;
import java.nio.file.Files;
import java.nio.file.Path;
import java.util.regex.Matcher;
import java.util.regex.Pattern;

/** The calls that README.md shows answer what it says beside them, and it names each call of the face. */
public final class ReadmeTest {
    private static final Pattern CALL = Pattern.compile("x\\.(\\w+)\\((.*)\\);\\s*(?:// (-?\\d+|true|false)\\b.*)?");

    private ReadmeTest() {
    }

    public static void main(String[] args) throws Exception {
        String text = Files.readString(Path.of("README.md"));
        DeckChairs x = new DeckChairs();
        int answers = 0;
        for (String line : text.split("\n")) {
            Matcher m = CALL.matcher(line);
            if (m.matches()) {
                long got = call(x, m.group(1), m.group(2));
                if (m.group(3) != null) {
                    answers++;
                    Check.due(line, got, number(m.group(3)));
                }
            }
        }
        Check.due("some answers are shown", answers > 10, true);
        for (Method method : DeckChairs.class.getDeclaredMethods()) {
            if (java.lang.reflect.Modifier.isPublic(method.getModifiers())) {
                Check.due("README.md names " + method.getName(), text.contains("`" + method.getName() + "`"), true);
            }
        }
        Check.end("ReadmeTest");
    }

    private static long number(String word) {
        if (word.equals("true") || word.equals("false")) {
            return word.equals("true") ? 1 : 0;
        }
        return Long.decode(word);
    }

    private static long call(DeckChairs x, String name, String told) throws Exception {
        String[] words = told.isEmpty() ? new String[0] : told.split(", ");
        for (Method method : DeckChairs.class.getDeclaredMethods()) {
            if (method.getName().equals(name)) {
                Object[] given = new Object[words.length];
                for (int i = 0; i < words.length; i++) {
                    boolean is = method.getParameterTypes()[i] == boolean.class;
                    given[i] = is ? (Object) words[i].equals("true") : (Object) (int) number(words[i]);
                }
                Object answer = method.invoke(x, given);
                return answer instanceof Boolean ? (Boolean) answer ? 1 : 0 : (Integer) answer;
            }
        }
        throw new IllegalArgumentException(name);
    }
}
