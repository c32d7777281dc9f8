import java.io.IOException;
import java.lang.reflect.Method;
import java.nio.file.Files;
import java.nio.file.Path;
import java.util.TreeSet;
import java.util.regex.Matcher;
import java.util.regex.Pattern;

/** README.md tells the truth: its example answers as it says, its text is a PRISON, and it names every method. */
public final class ReadmeTest {
    private static final Pattern CALL = Pattern.compile("x\\.(\\w+)\\((.*?)\\);\\s*(?://\\s*(-?\\d+)\\b)?");

    public static void main(String[] args) throws IOException, ReflectiveOperationException {
        String readme = Files.readString(Path.of("README.md"));
        example(between(readme, "```java"));
        String text = between(readme, "```text");
        Check.sound(text, text.split(";").length - 1);
        TreeSet<String> unnamed = new TreeSet<>();
        for (Method m : ConsentDoors.class.getDeclaredMethods()) {
            boolean named = Pattern.compile("`[^`\n]*\\b" + m.getName() + "\\b[^`\n]*`").matcher(readme).find();
            if (java.lang.reflect.Modifier.isPublic(m.getModifiers()) && !named) {
                unnamed.add(m.getName());
            }
        }
        Check.holds("methods that it does not name: " + unnamed, unnamed.isEmpty());
        Check.holds("it says how to run the tests", readme.contains(".ci/run"));
        Check.finish();
    }

    private static String between(String readme, String mark) {
        int from = readme.indexOf(mark) + mark.length();
        return readme.substring(from, readme.indexOf("```", from));
    }

    private static void example(String code) throws ReflectiveOperationException {
        ConsentDoors x = new ConsentDoors();
        int answered = 0;
        Matcher m = CALL.matcher(code);
        while (m.find()) {
            String[] words = m.group(2).isEmpty() ? new String[0] : m.group(2).split(", *");
            Object[] given = new Object[words.length];
            Class<?>[] types = new Class<?>[words.length];
            for (int i = 0; i < words.length; i++) {
                types[i] = m.group(1).equals("write") && i == 2 ? long.class : int.class;
                given[i] = types[i] == long.class ? (Object) Long.decode(words[i]) : (Object) Long.decode(words[i]).intValue();
            }
            int answer = (Integer) ConsentDoors.class.getMethod(m.group(1), types).invoke(x, given);
            if (m.group(3) != null) {
                answered++;
                Check.due("README: " + m.group(), answer, Integer.parseInt(m.group(3)));
            }
        }
        Check.holds("answers that it tells: " + answered, answered >= 10);
    }
}
