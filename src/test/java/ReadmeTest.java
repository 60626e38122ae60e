import java.lang.reflect.Method;
import java.nio.file.Files;
import java.nio.file.Path;
import java.util.List;
import java.util.regex.Matcher;
import java.util.regex.Pattern;

/** Makes the calls of README.md's example, line by line, and looks at the answers that it names. */
public final class ReadmeTest extends Checks {
    private static final Pattern CALL = Pattern.compile("scene\\.(\\w+)\\(([^)]*)\\); +// (-?\\d+)(:.*)?");
    private static final Pattern TYPING = Pattern.compile(
        "for \\(char c : \"([^\"]*)\"\\.toCharArray\\(\\)\\) scene\\.type\\(c\\);");

    private static long answer(SceneBoxes x, String name, String numbers) throws Exception {
        String[] given = numbers.isEmpty() ? new String[0] : numbers.split(", ");
        Class<?>[] types = new Class<?>[given.length];
        Object[] values = new Object[given.length];
        for (int k = 0; k < given.length; k++) {
            types[k] = int.class;
            values[k] = Integer.valueOf(given[k]);
        }
        Method called = SceneBoxes.class.getMethod(name, types);
        return ((Number) called.invoke(x, values)).longValue();
    }

    /** Answers whether the line is a call whose answer is told. */
    private static boolean follow(SceneBoxes x, String line) throws Exception {
        Matcher call = CALL.matcher(line);
        Matcher typing = TYPING.matcher(line);
        if (call.matches()) {
            due(line, answer(x, call.group(1), call.group(2)), Long.parseLong(call.group(3)));
            return true;
        }
        if (typing.matches()) {
            type(x, typing.group(1));
        } else if (!line.isEmpty() && !line.startsWith("//") && !line.equals("SceneBoxes scene = new SceneBoxes();")) {
            tell("this line was not understood: " + line);
        }
        return false;
    }

    public static void main(String[] args) throws Exception {
        about("README.md");
        List<String> lines = Files.readAllLines(Path.of("README.md"));
        int first = lines.indexOf("```java") + 1;
        int last = lines.indexOf("```");
        SceneBoxes x = new SceneBoxes();
        int followed = 0;
        for (int k = first; k < last; k++) {
            followed += follow(x, lines.get(k)) ? 1 : 0;
        }
        if (followed == 0) {
            tell("there is no example");
        }
        end("the " + followed + " answers of the example are as due");
    }
}
