import java.lang.reflect.Method;
import java.lang.reflect.Modifier;
import java.nio.file.Files;
import java.nio.file.Path;
import java.util.regex.Matcher;
import java.util.regex.Pattern;

/** The calls that README.md shows answer as it says, and it names every call of the face. */
public final class ReadmeTest {
    private static final Pattern CALL = Pattern.compile("^fair\\.(\\w+)\\((.*)\\);\\s+// (\\S+).*$");
    private static final Pattern TEXT = Pattern.compile("^tell\\(fair, (\\d), \"(.*)\"\\);\\s+// (\\S+).*$");
    private static final String MADE = "ClaspedFair fair = new ClaspedFair();";

    public static void main(String[] args) throws Exception {
        String page = Files.readString(Path.of("README.md"));
        int calls = 0;
        ClaspedFair fair = new ClaspedFair();
        for (String line : page.split("\n")) {
            Matcher call = CALL.matcher(line);
            Matcher text = TEXT.matcher(line);
            if (line.equals(MADE)) {
                fair = new ClaspedFair();
            } else if (call.matches()) {
                Check.due(line, answer(fair, call.group(1), call.group(2)).equals(call.group(3)), true);
                calls++;
            } else if (text.matches()) {
                int k = Integer.parseInt(text.group(1));
                Check.due(line, Check.tell(fair, k, text.group(2)), Integer.parseInt(text.group(3)));
                calls++;
            } else {
                Check.due("a call without its answer: " + line, line.startsWith("fair."), false);
            }
        }
        Check.due("calls on the page", calls > 50, true);
        dueNamed(page);
        Check.finish();
    }

    private static String answer(ClaspedFair fair, String name, String given) throws Exception {
        String[] words = given.isEmpty() ? new String[0] : given.split(", ");
        for (Method m : ClaspedFair.class.getMethods()) {
            if (m.getName().equals(name) && m.getParameterCount() == words.length) {
                Object[] values = new Object[words.length];
                for (int i = 0; i < words.length; i++) {
                    values[i] = m.getParameterTypes()[i] == int.class ? Integer.valueOf(words[i])
                            : (Object) Boolean.valueOf(words[i]);
                }
                return String.valueOf(m.invoke(fair, values));
            }
        }
        return "no such call";
    }

    private static void dueNamed(String page) {
        for (Method m : ClaspedFair.class.getDeclaredMethods()) {
            if (Modifier.isPublic(m.getModifiers())) {
                int named = 0;
                Matcher shown = Pattern.compile("`" + m.getName() + "\\(([a-z, ]*)\\)`").matcher(page);
                while (shown.find()) {
                    int commas = shown.group(1).replaceAll("[^,]", "").length();
                    int parameters = shown.group(1).isEmpty() ? 0 : commas + 1;
                    named += parameters == m.getParameterCount() ? 1 : 0;
                }
                Check.due("README.md names " + m.getName(), named > 0, true);
            }
        }
    }
}
