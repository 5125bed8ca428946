import java.io.DataInputStream;
import java.io.IOException;
import java.lang.reflect.Constructor;
import java.lang.reflect.Field;
import java.lang.reflect.Method;
import java.lang.reflect.Modifier;
import java.nio.charset.StandardCharsets;
import java.nio.file.Files;
import java.nio.file.Path;
import java.util.List;
import java.util.Set;
import java.util.TreeSet;
import java.util.regex.Matcher;
import java.util.regex.Pattern;

/** The rules of ../shared/LANGUAGE.md that can be seen from the class and its text. Runs in the project's folder. */
public final class LanguageTest {
  private static final Path SOURCE = Path.of("src", "main", "java", "KnitRiver.java");

  private static final String[] FACE = {
    "knit(int,int,int)", "rowIs(int,int)", "become(int,int)", "as(int,int)", "tie(int,int)", "drop(int)", "tense(int,int)",
    "pull(int)", "wind(int,int)", "feed(long,int)", "text(int)", "untell(int)", "law(int,int,int,int)", "season(int)",
    "loose(int)", "seed(int)", "flow(int,int,int)", "course(int,int)", "crosses()", "reach(int,int,int)", "ease(int,int)",
    "odds(int)", "fits(int,int)", "voice(int,int,int)", "body(int)", "sheet(int,int,int)", "put(int,int,int)",
    "move(int,int,int,int,int)", "tensions(int)", "judge(int)", "image()", "restore()", "tell(int)", "check()", "count(int)",
    "told(int)",
  };

  /** Rule 4, as the compiled class names it: class, method and what it takes and gives. */
  private static final Pattern LIBRARY = Pattern.compile(
      "java/lang/Object\\.<init>\\(\\)V"
          + "|java/lang/(Math|Integer|Long)\\.(?!\\w*Exact\\()\\w+\\([IJ]*\\)[IJZ]"
          + "|java/lang/System\\.arraycopy\\(.*"
          + "|java/util/Arrays\\.(copyOf|copyOfRange|fill)\\(\\[[IJSBCZ].*"
          + "|java/lang/String\\.(length|charAt|isEmpty|equals|indexOf|substring|toCharArray|<init>)\\(.*"
          + "|java/lang/StringBuilder\\.(<init>|append|charAt|setCharAt|setLength|deleteCharAt|reverse|length|toString)\\(.*"
          + "|java/util/(ArrayList|List)\\.(<init>|add|get|set|remove|size|isEmpty|clear|iterator|of)\\(.*");

  private static final Due DUE = new Due("language");

  private LanguageTest() {}

  public static void main(String[] args) throws IOException {
    face();
    members(KnitRiver.class);
    library(KnitRiver.class);
    DUE.is("at most twelve classes", KnitRiver.class.getDeclaredClasses().length < 12 ? 1 : 0, 1);
    for (Class<?> inside : KnitRiver.class.getDeclaredClasses()) {
      DUE.is(inside + " is static and not public", inside.getModifiers() & (Modifier.STATIC | Modifier.PUBLIC), Modifier.STATIC);
      members(inside);
      library(inside);
    }
    text(Files.readAllLines(SOURCE, StandardCharsets.UTF_8));
    DUE.end();
  }

  private static String signature(Method method) {
    StringBuilder s = new StringBuilder(method.getName()).append('(');
    for (Class<?> type : method.getParameterTypes()) {
      s.append(s.charAt(s.length() - 1) == '(' ? "" : ",").append(type.getName());
    }
    return s.append(')').toString();
  }

  private static void face() {
    Set<String> left = new TreeSet<>(List.of(FACE));
    for (Method method : KnitRiver.class.getDeclaredMethods()) {
      if (Modifier.isPublic(method.getModifiers())) {
        DUE.is(method + " is of the face and answers an int", left.remove(signature(method)) && method.getReturnType() == int.class ? 1 : 0, 1);
      } else {
        DUE.is(method + " is private", method.isSynthetic() || Modifier.isPrivate(method.getModifiers()) ? 1 : 0, 1);
      }
    }
    DUE.is("methods of the face that are missing: " + left, left.size(), 0);
    DUE.is("constructors", KnitRiver.class.getConstructors().length, 1);
    DUE.is("public and final", KnitRiver.class.getModifiers() & (Modifier.PUBLIC | Modifier.FINAL), Modifier.PUBLIC | Modifier.FINAL);
    for (Field field : KnitRiver.class.getDeclaredFields()) {
      DUE.is(field + " is private", Modifier.isPrivate(field.getModifiers()) ? 1 : 0, 1);
    }
  }

  private static void members(Class<?> of) {
    int fields = 0;
    for (Field field : of.getDeclaredFields()) {
      boolean isStatic = Modifier.isStatic(field.getModifiers());
      fields += isStatic ? 0 : 1;
      DUE.is(field + " is final if it is static", !isStatic || Modifier.isFinal(field.getModifiers()) ? 1 : 0, 1);
    }
    DUE.is(of + " has at most twenty fields", fields <= 20 ? 1 : 0, 1);
    for (Method method : of.getDeclaredMethods()) {
      DUE.is(method + " takes at most seven", method.getParameterCount() <= 7 ? 1 : 0, 1);
      boolean bears = !Modifier.isPublic(method.getModifiers()) && List.of(FACE).stream().anyMatch(f -> f.startsWith(method.getName() + "("));
      DUE.is(method + " bears the name of a public one", bears ? 1 : 0, 0);
    }
    for (Constructor<?> constructor : of.getDeclaredConstructors()) {
      DUE.is(constructor + " takes at most seven", constructor.getParameterCount() <= 7 ? 1 : 0, 1);
    }
  }

  /** Looks at what of other classes a compiled class names in its table of constants (JVM specification, 4.4). */
  private static void library(Class<?> of) throws IOException {
    try (DataInputStream in = new DataInputStream(of.getResourceAsStream(of.getName() + ".class"))) {
      in.skipNBytes(8);
      int many = in.readUnsignedShort();
      String[] texts = new String[many];
      int[][] pairs = new int[many][];
      int[] tags = new int[many];
      for (int i = 1; i < many; i++) {
        tags[i] = in.readUnsignedByte();
        switch (tags[i]) {
          case 1: texts[i] = in.readUTF(); break;
          case 3: case 4: in.skipNBytes(4); break;
          case 5: case 6: in.skipNBytes(8); i++; break;
          case 7: case 8: pairs[i] = new int[] {in.readUnsignedShort()}; break;
          case 9: case 10: case 11: case 12: pairs[i] = new int[] {in.readUnsignedShort(), in.readUnsignedShort()}; break;
          default: throw new IOException(of + " has a constant of the sort " + tags[i] + ", as lambdas and texts joined by + have");
        }
      }
      for (int i = 1; i < many; i++) {
        if (tags[i] >= 9 && tags[i] <= 11) {
          int[] named = pairs[pairs[i][1]];
          String call = texts[pairs[pairs[i][0]][0]] + "." + texts[named[0]] + texts[named[1]];
          DUE.is(of + " names " + call, call.startsWith("KnitRiver") || LIBRARY.matcher(call).matches() ? 1 : 0, 1);
        }
      }
    }
  }

  private static void text(List<String> lines) {
    Pattern never = Pattern.compile(
        "\\b(import|package|throw|throws|try|catch|finally|synchronized|assert|volatile|native|transient|var|yield|sealed|"
            + "System\\.(?!arraycopy)\\w+|Thread|Random|\\w+Exact|equals|hashCode|toString|getClass)\\b|->|::|@|[^\\x20-\\x7e]");
    int at = 0;
    for (String line : lines) {
      at++;
      String code = line.strip();
      boolean told = code.startsWith("//") || code.startsWith("*") || code.startsWith("/**");
      Matcher matcher = never.matcher(told ? "" : code);
      DUE.is("line " + at + " has what is ruled out: " + line, matcher.find() ? 1 : 0, 0);
    }
    DUE.is("methods and constructors found", methods(lines) > 100 ? 1 : 0, 1);
  }

  /** Rules 8 and 11 for each method: none is long, none calls itself but a private static one. */
  private static int methods(List<String> lines) {
    String indent = "  ";
    int many = 0;
    for (int at = 0; at < lines.size(); at++) {
      String line = lines.get(at);
      if (line.matches("  \\S.* class .*\\{")) {
        indent = "    ";
      } else if (line.equals("  }")) {
        indent = "  ";
      }
      Matcher head = Pattern.compile(indent + "\\w[^=]*?(\\w+)\\(.*\\) \\{").matcher(line);
      if (head.matches()) {
        many++;
        int end = lines.subList(at, lines.size()).indexOf(indent + "}");
        DUE.is("the method at line " + (at + 1) + " has an end and is short", end > 0 && end < 60 ? 1 : 0, 1);
        Pattern itself = Pattern.compile("(?<![.\\w])" + head.group(1) + "\\(");
        for (int i = 1; i < end && !line.contains("private static "); i++) {
          String inside = lines.get(at + i);
          DUE.is("line " + (at + i + 1) + " calls its own method: " + inside, itself.matcher(inside).find() ? 1 : 0, 0);
        }
        at += Math.max(0, end);
      }
    }
    return many;
  }
}
