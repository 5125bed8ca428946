import java.io.IOException;
import java.nio.charset.StandardCharsets;
import java.nio.file.Files;
import java.nio.file.Path;
import java.util.ArrayList;
import java.util.HashMap;
import java.util.HashSet;
import java.util.List;
import java.util.Map;
import java.util.Set;
import java.util.regex.Matcher;
import java.util.regex.Pattern;

/**
 * Runs src/test/boundaries.txt, which has a test for each sentence of the document that names a boundary case, and
 * tells there how it is written. Runs in the project's folder.
 */
public final class BoundariesTest {
  private static final Path RUNS = Path.of("src", "test", "boundaries.txt");
  private static final Path DOC = Path.of("..", "shared", "DOC.md");
  private static final int MOST_CALLS = 512;
  private static final int PROMISES = 37;
  private static final List<String> ERRORS = List.of("", "BEYOND", "NONE", "STATE", "FULL", "KIND", "PARTED");
  private static final Pattern TOLD_ERROR = Pattern.compile("[.:;] (BEYOND|NONE|STATE|FULL|KIND|PARTED)\\b");

  private final Map<String, String> document = sections();
  private final Due due = new Due("boundaries");

  /** "Promise 2 BEYOND": an ERROR that a run under that heading was answered. */
  private final Set<String> answered = new HashSet<>();

  private String section = "";
  private String sentence = "";
  private int line = 0;
  private KnitRiver river = null;
  private List<Call> calls = new ArrayList<>();

  private BoundariesTest() throws IOException {}

  public static void main(String[] args) throws IOException {
    BoundariesTest test = new BoundariesTest();
    for (String text : Files.readAllLines(RUNS, StandardCharsets.US_ASCII)) {
      test.line++;
      test.read(text.strip());
    }
    test.whole();
    test.due.end();
  }

  /** One call of a run. */
  private static final class Call {
    final String act;
    final long[] numbers;

    Call(String act, long... numbers) {
      this.act = act;
      this.numbers = numbers;
    }

    long answer(KnitRiver x) {
      return Acts.answer(x, act, numbers);
    }

    @Override
    public String toString() {
      StringBuilder s = new StringBuilder(act).append('(');
      for (int i = 0; i < numbers.length; i++) {
        s.append(i == 0 ? "" : ", ").append(numbers[i]);
      }
      return s.append(')').toString();
    }
  }

  // ---- the document

  /** Its sections by their headings, up to a colon; each run of blanks and line ends as one blank. */
  private static Map<String, String> sections() throws IOException {
    Map<String, String> sections = new HashMap<>();
    for (String part : Files.readString(DOC, StandardCharsets.UTF_8).split("(?m)^## ")) {
      int end = part.indexOf('\n');
      String heading = part.substring(0, Math.max(end, 0)).split(":")[0].strip();
      sections.put(heading, part.replaceAll("\\s+", " "));
    }
    return sections;
  }

  private void right(String what, boolean is) {
    due.is("line " + line + ": " + what, is ? 1 : 0, 1);
  }

  /** Each promise has its test, and so has each ERROR that a promise tells. */
  private void whole() {
    for (int i = 1; i <= PROMISES; i++) {
      String heading = "Promise " + i;
      Matcher told = TOLD_ERROR.matcher(document.getOrDefault(heading, ""));
      while (told.find()) {
        right(heading + " has a run with " + told.group(1), answered.contains(heading + " " + told.group(1)));
      }
      right(heading + " has a run", answered.contains(heading));
    }
  }

  // ---- the runs

  private void read(String text) {
    if (text.startsWith("== ")) {
      section = text.substring(3);
      right("the document has a section '" + section + "'", document.containsKey(section));
    } else if (text.startsWith("-- ")) {
      sentence = text.substring(3);
      right("'" + section + "' has the words: " + sentence, document.getOrDefault(section, "").contains(sentence));
      begin();
    } else if (text.equals("new")) {
      begin();
    } else if (!text.isEmpty() && !text.startsWith("#")) {
      for (String part : text.split(" *; *(?=([^\"]*\"[^\"]*\")*[^\"]*$)")) {
        perform(part);
      }
    }
  }

  private void begin() {
    river = new KnitRiver();
    calls = new ArrayList<>();
  }

  private void perform(String part) {
    Matcher matcher = Pattern.compile("(?:(\\d+)\\* )?(\\w+)( \".*\"| [^=\"]*?)?(?: = (\\S+))?").matcher(part);
    if (!matcher.matches()) {
      right("can be read: " + part, false);
      return;
    }
    int times = matcher.group(1) == null ? 1 : Integer.parseInt(matcher.group(1));
    List<Call> all = callsOf(matcher.group(2), matcher.group(3) == null ? "" : matcher.group(3).strip());
    for (int i = 0; i < times; i++) {
      for (Call call : all) {
        ask(call, matcher.group(4));
      }
    }
  }

  private void ask(Call call, String want) {
    boolean refused = want != null && ERRORS.indexOf(want) > 0;
    if (refused) {
      refusedChangesNothing(call, ERRORS.indexOf(want));
      answered.add(section + " " + want);
    }
    long got = call.answer(river);
    calls.add(call);
    answered.add(section);
    String where = "line " + line + ", " + section + ", \"" + sentence + "\": " + call;
    if (want == null) {
      due.is(where + " answers no ERROR, but " + got, got < -1000000000 && got >= -1000000006 ? 1 : 0, 0);
    } else {
      due.is(where, got, number(want));
    }
    right("no run is longer than the document allows", calls.size() <= MOST_CALLS);
  }

  private static List<Call> callsOf(String act, String words) {
    List<Call> all = new ArrayList<>();
    if (act.equals("tape")) {
      feeds(all, words.substring(1, words.length() - 1));
      return all;
    }
    String[] each = words.isEmpty() ? new String[0] : words.split(" +");
    long[] numbers = new long[each.length];
    for (int i = 0; i < each.length; i++) {
      numbers[i] = number(each[i]);
    }
    if (!act.equals("sheetOf")) {
      all.add(new Call(act, numbers));
      return all;
    }
    all.add(new Call("sheet", numbers[0], numbers[1], numbers.length - 2));
    for (int i = 2; i < numbers.length; i++) {
      all.add(new Call("put", numbers[0], i - 2, numbers[i]));
    }
    return all;
  }

  private static void feeds(List<Call> all, String text) {
    long word = 0;
    int n = 0;
    for (int i = 0; i < text.length(); i++) {
      long sign = text.charAt(i);
      if (text.startsWith("\\x", i)) {
        sign = Long.parseLong(text.substring(i + 2, i + 4), 16);
        i += 3;
      }
      word |= sign << (8 * n);
      n++;
      if (n == 8 || i == text.length() - 1) {
        all.add(new Call("feed", word, n));
        word = 0;
        n = 0;
      }
    }
  }

  private static long number(String s) {
    if (ERRORS.indexOf(s) > 0) {
      return -1000000000 - ERRORS.indexOf(s);
    }
    if (s.startsWith("0x")) {
      return Long.parseUnsignedLong(s.substring(2), 16);
    }
    return s.equals("MIN") ? Integer.MIN_VALUE : s.equals("MAX") ? Integer.MAX_VALUE : Long.parseLong(s);
  }

  // ---- a refused call changes nothing but what told() tells

  private void refusedChangesNothing(Call refused, int error) {
    KnitRiver with = again();
    refused.answer(with);
    KnitRiver without = again();
    String where = "line " + line + ": behind the refused " + refused;
    for (int k = 1; k < ERRORS.size(); k++) {
      due.is(where + ": told(" + k + ")", with.told(k), without.told(k) + (k == error ? 1 : 0));
    }
    int most = MOST_CALLS - calls.size() - 1 - (ERRORS.size() - 1);
    List<String> is = all(with, most);
    List<String> was = all(without, most);
    right("as long: " + refused, is.size() == was.size());
    for (int i = 0; i < Math.min(is.size(), was.size()); i++) {
      right(where + " " + is.get(i) + ", without it " + was.get(i), is.get(i).equals(was.get(i)));
    }
  }

  private KnitRiver again() {
    KnitRiver x = new KnitRiver();
    for (Call call : calls) {
      call.answer(x);
    }
    return x;
  }

  /** All that can be seen of an object, by so many calls at most: what is, what a SHEET, THE TAPE, an IMAGE have. */
  private static List<String> all(KnitRiver x, int most) {
    List<String> seen = new ArrayList<>();
    look(seen, x, most);
    for (int sheet = 0; sheet < 4; sheet++) {
      boolean there = see(seen, x, most, "judge", sheet) >= 0;
      for (int n = 0; there && n <= 24; n += n < 4 ? 1 : 5) {
        see(seen, x, most, "move", sheet, n, sheet, n, 0);
      }
      see(seen, x, most, "fits", sheet, 1);
      see(seen, x, most, "tensions", sheet);
      rows(seen, x, most, 3, 3);
    }
    see(seen, x, most, "check");
    see(seen, x, most, "text", 1);
    laws(seen, x, most);
    see(seen, x, most, "restore");
    look(seen, x, most);
    see(seen, x, most, "text", 1);
    laws(seen, x, most);
    see(seen, x, most, "check");
    see(seen, x, most, "image");
    return seen;
  }

  private static void look(List<String> seen, KnitRiver x, int most) {
    for (int what = 0; what <= 8; what++) {
      see(seen, x, most, "count", what);
    }
    rows(seen, x, most, 0, 7);
    for (int i = 0; i <= 6; i++) {
      see(seen, x, most, "body", i);
    }
    laws(seen, x, most);
  }

  private static void rows(List<String> seen, KnitRiver x, int most, int from, int to) {
    long rows = see(seen, x, most, "count", 0);
    for (int row = 0; row < rows; row++) {
      for (int what = from; what <= to; what++) {
        see(seen, x, most, "rowIs", row, what);
      }
    }
  }

  private static void laws(List<String> seen, KnitRiver x, int most) {
    see(seen, x, most, "law", 0, 5, 3, 2);
    see(seen, x, most, "law", 0, 40, 7, -3);
    see(seen, x, most, "law", 1, 5, 3, 2);
    see(seen, x, most, "law", 1, 7, -3, 6);
  }

  /** What a call answers; 0, and no call, if there were as many as may be. */
  private static long see(List<String> seen, KnitRiver x, int most, String act, long... numbers) {
    if (seen.size() >= most) {
      return 0;
    }
    Call call = new Call(act, numbers);
    long is = call.answer(x);
    seen.add(call + " is " + is);
    return is;
  }
}
