import java.io.IOException;
import java.lang.reflect.Constructor;
import java.lang.reflect.Field;
import java.lang.reflect.Method;
import java.lang.reflect.Modifier;
import java.nio.charset.StandardCharsets;
import java.nio.file.Files;
import java.nio.file.Path;
import java.util.List;
import java.util.Set;
import java.util.TreeSet;
import java.util.regex.Matcher;
import java.util.regex.Pattern;

/** The rules of ../shared/LANGUAGE.md that can be seen from the class and its text. Runs in the project's folder. */
public final class LanguageTest {
  private static final Path SOURCE = Path.of("src", "main", "java", "KnitRiver.java");

  private static final String[] FACE = {
    "knit(int,int,int)", "rowIs(int,int)", "become(int,int)", "as(int,int)", "tie(int,int)", "drop(int)", "tense(int,int)",
    "pull(int)", "wind(int,int)", "feed(long,int)", "text(int)", "untell(int)", "law(int,int,int,int)", "season(int)",
    "loose(int)", "seed(int)", "flow(int,int,int)", "course(int,int)", "crosses()", "reach(int,int,int)", "ease(int,int)",
    "odds(int)", "fits(int,int)", "voice(int,int,int)", "body(int)", "sheet(int,int,int)", "put(int,int,int)",
    "move(int,int,int,int,int)", "tensions(int)", "judge(int)", "image()", "restore()", "tell(int)", "check()", "count(int)",
    "told(int)",
  };

  private static final Due DUE = new Due("language");

  private LanguageTest() {}

  public static void main(String[] args) throws IOException {
    face();
    members(KnitRiver.class);
    DUE.is("at most twelve classes", KnitRiver.class.getDeclaredClasses().length < 12 ? 1 : 0, 1);
    for (Class<?> inside : KnitRiver.class.getDeclaredClasses()) {
      DUE.is(inside + " is static and not public", inside.getModifiers() & (Modifier.STATIC | Modifier.PUBLIC), Modifier.STATIC);
      members(inside);
    }
    text(Files.readAllLines(SOURCE, StandardCharsets.UTF_8));
    DUE.end();
  }

  private static String signature(Method method) {
    StringBuilder s = new StringBuilder(method.getName()).append('(');
    for (Class<?> type : method.getParameterTypes()) {
      s.append(s.charAt(s.length() - 1) == '(' ? "" : ",").append(type.getName());
    }
    return s.append(')').toString();
  }

  private static void face() {
    Set<String> left = new TreeSet<>(List.of(FACE));
    for (Method method : KnitRiver.class.getDeclaredMethods()) {
      if (Modifier.isPublic(method.getModifiers())) {
        DUE.is(method + " is of the face and answers an int", left.remove(signature(method)) && method.getReturnType() == int.class ? 1 : 0, 1);
      } else {
        DUE.is(method + " is private", method.isSynthetic() || Modifier.isPrivate(method.getModifiers()) ? 1 : 0, 1);
      }
    }
    DUE.is("methods of the face that are missing: " + left, left.size(), 0);
    DUE.is("constructors", KnitRiver.class.getConstructors().length, 1);
    DUE.is("public and final", KnitRiver.class.getModifiers() & (Modifier.PUBLIC | Modifier.FINAL), Modifier.PUBLIC | Modifier.FINAL);
    for (Field field : KnitRiver.class.getDeclaredFields()) {
      DUE.is(field + " is private", Modifier.isPrivate(field.getModifiers()) ? 1 : 0, 1);
    }
  }

  private static void members(Class<?> of) {
    int fields = 0;
    for (Field field : of.getDeclaredFields()) {
      boolean isStatic = Modifier.isStatic(field.getModifiers());
      fields += isStatic ? 0 : 1;
      DUE.is(field + " is final if it is static", !isStatic || Modifier.isFinal(field.getModifiers()) ? 1 : 0, 1);
    }
    DUE.is(of + " has at most twenty fields", fields <= 20 ? 1 : 0, 1);
    for (Method method : of.getDeclaredMethods()) {
      DUE.is(method + " takes at most seven", method.getParameterCount() <= 7 ? 1 : 0, 1);
      boolean bears = !Modifier.isPublic(method.getModifiers()) && List.of(FACE).stream().anyMatch(f -> f.startsWith(method.getName() + "("));
      DUE.is(method + " bears the name of a public one", bears ? 1 : 0, 0);
    }
    for (Constructor<?> constructor : of.getDeclaredConstructors()) {
      DUE.is(constructor + " takes at most seven", constructor.getParameterCount() <= 7 ? 1 : 0, 1);
    }
  }

  private static void text(List<String> lines) {
    Pattern never = Pattern.compile(
        "\\b(import|package|throw|throws|try|catch|finally|synchronized|assert|volatile|native|transient|var|yield|sealed|"
            + "System\\.(?!arraycopy)\\w+|Thread|Random|\\w+Exact|equals|hashCode|toString|getClass)\\b|->|::|@|[^\\x20-\\x7e]");
    int from = 0;
    int at = 0;
    for (String line : lines) {
      at++;
      String code = line.strip();
      boolean told = code.startsWith("//") || code.startsWith("*") || code.startsWith("/**");
      Matcher matcher = never.matcher(told ? "" : code);
      DUE.is("line " + at + " has what is ruled out: " + line, matcher.find() ? 1 : 0, 0);
      if (line.matches(" {2,4}[^ /*}].*\\) \\{")) {
        from = at;
      }
      if (line.matches(" {2,4}\\}") && from > 0) {
        DUE.is("the method up to line " + at + " is short", at - from < 60 ? 1 : 0, 1);
        from = 0;
      }
    }
  }
}
