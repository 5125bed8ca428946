import java.io.IOException;
import java.lang.reflect.Method;
import java.lang.reflect.Modifier;
import java.nio.charset.StandardCharsets;
import java.nio.file.Files;
import java.nio.file.Path;
import java.util.HashSet;
import java.util.Set;
import java.util.regex.Matcher;
import java.util.regex.Pattern;

/** The examples of README.md answer as it says, and it names each act. Runs in the project's folder. */
public final class ReadmeTest {
  private static final Path README = Path.of("README.md");
  private static final Pattern EXAMPLE = Pattern.compile("river\\.(\\w+)\\((.*)\\); +// (-?\\d+)(:.*)?");

  private ReadmeTest() {}

  public static void main(String[] args) throws IOException {
    Due due = new Due("readme");
    String text = Files.readString(README, StandardCharsets.UTF_8);
    examples(text, due);
    for (Method method : KnitRiver.class.getDeclaredMethods()) {
      if (Modifier.isPublic(method.getModifiers())) {
        due.is("README.md names " + method.getName(), text.contains("`" + method.getName() + "`") ? 1 : 0, 1);
      }
    }
    due.end();
  }

  private static void examples(String text, Due due) {
    KnitRiver river = null;
    Set<String> shown = new HashSet<>();
    for (String line : text.split("\n")) {
      if (line.equals("KnitRiver river = new KnitRiver();")) {
        river = new KnitRiver();
      } else if (line.startsWith("river.")) {
        Matcher example = EXAMPLE.matcher(line);
        boolean right = river != null && example.matches();
        due.is("an example can be read: " + line, right ? 1 : 0, 1);
        if (right) {
          shown.add(example.group(1));
          due.is("README.md: " + line, Acts.answer(river, example.group(1), numbers(example.group(2))), Long.parseLong(example.group(3)));
        }
      }
    }
    due.is("acts that README.md has an example of", shown.size(), 36);
  }

  private static long[] numbers(String list) {
    String[] parts = list.isEmpty() ? new String[0] : list.split(", ");
    long[] numbers = new long[parts.length];
    for (int i = 0; i < parts.length; i++) {
      numbers[i] = Long.decode(parts[i].endsWith("L") ? parts[i].substring(0, parts[i].length() - 1) : parts[i]);
    }
    return numbers;
  }
}
