import java.util.ArrayList;
import java.util.List;
import java.util.Random;

/** Long runs of calls, by a fixed seed: KnitRiver must answer as PlainModel does, and never throw. */
public final class AgainstModelTest {
  private static final int RUNS = 300;
  private static final int CALLS = 512;

  private static final String[] ACTS = {
    "knit", "knit", "knit", "knit", "knit", "rowIs", "rowIs", "rowIs", "become", "as", "tie", "drop", "tense", "pull", "wind",
    "feed", "text", "untell", "law", "law", "tape", "tape", "season", "season", "loose", "seed", "flow", "flow", "course",
    "crosses", "reach", "reach", "ease", "odds", "fits", "voice", "voice", "body", "sheet", "put", "put", "move", "tensions",
    "judge", "image", "restore", "tell", "check", "count", "told", "sheetOf", "waitsOf",
  };

  private static final String SIGNS = "|&<=>+-*/%!()0123456789bwtk \u00ff";

  private final Random random;
  private final KnitRiver river = new KnitRiver();
  private final PlainModel model = new PlainModel();
  private final List<String> calls = new ArrayList<>();
  private final Due due;
  private int left = CALLS;

  private AgainstModelTest(long seed, Due due) {
    this.random = new Random(seed);
    this.due = due;
  }

  public static void main(String[] args) {
    Due due = new Due("against the model");
    for (int run = 0; run < RUNS && due.wrongs() == 0; run++) {
      new AgainstModelTest(run, due).go();
    }
    due.end();
  }

  private void go() {
    if (random.nextInt(3) == 0) {
      ask("wind", 0, random.nextInt(10000));
    }
    while (left > 0 && due.wrongs() == 0) {
      step(ACTS[random.nextInt(ACTS.length)]);
    }
    if (due.wrongs() > 0) {
      System.out.println("the calls: " + calls);
    }
  }

  private void ask(String act, long... a) {
    if (left <= 0) {
      return;
    }
    left--;
    StringBuilder call = new StringBuilder(act).append('(');
    for (int i = 0; i < a.length; i++) {
      call.append(i == 0 ? "" : ", ").append(a[i]);
    }
    calls.add(call.append(')').toString());
    due.is(call.toString(), Acts.answer(river, act, a), model.call(act, a));
  }

  private int odd() {
    int[] odd = {Integer.MIN_VALUE, Integer.MAX_VALUE, -1, 1 << 30, -1000000001, 255, 65536, -129};
    return random.nextInt(4) == 0 ? odd[random.nextInt(odd.length)] : random.nextInt();
  }

  /** Mostly from least to most, at times one beyond, at times anything. */
  private int from(int least, int most) {
    int how = random.nextInt(40);
    if (how == 0) {
      return odd();
    }
    return how == 1 ? least - 1 : how == 2 ? most + 1 : least + random.nextInt(Math.max(1, most - least + 1));
  }

  private int rows() {
    return model.all.rows.size();
  }

  private int row() {
    return from(0, rows() - 1);
  }

  private int much() {
    return random.nextBoolean() ? from(0, 60) : from(0, 999);
  }

  private void step(String act) {
    switch (act) {
      case "knit": ask(act, from(0, 69), from(1, 12), from(-9, 9)); break;
      case "rowIs": ask(act, row(), from(0, 7)); break;
      case "become": ask(act, row(), from(0, 69)); break;
      case "as": ask(act, row(), from(0, 6)); break;
      case "tie": ask(act, row(), from(0, 1)); break;
      case "drop": ask(act, row()); break;
      case "tense": ask(act, row(), from(-9, 9)); break;
      case "pull": ask(act, random.nextInt(4) == 0 ? row() : rows() - 1 - random.nextInt(3)); break;
      case "wind": ask(act, from(0, 1), random.nextBoolean() ? from(0, 3) : from(0, 9999)); break;
      case "feed": ask(act, random.nextLong(), from(1, 8)); break;
      case "text":
      case "untell": ask(act, from(0, 1)); break;
      case "law": ask(act, from(0, 1), number(), number(), number()); break;
      case "tape": tape(); break;
      case "season": ask(act, much()); break;
      case "loose": ask(act, from(1, 30)); break;
      case "seed": ask(act, odd()); break;
      case "flow": ask(act, much(), from(0, rows()), from(0, 1)); break;
      case "course": ask(act, from(0, rows()), from(0, 1)); break;
      case "reach": reach(); break;
      case "ease": ask(act, much(), from(0, 1)); break;
      case "odds": ask(act, from(0, 1)); break;
      case "fits": ask(act, from(0, 3), from(0, 1)); break;
      case "voice": ask(act, row(), from(0, 3), number()); break;
      case "body": ask(act, from(0, 7)); break;
      case "sheet": ask(act, from(0, 3), new int[] {8, 16, 32, 32, 0, from(0, 40)}[random.nextInt(6)], from(0, 24)); break;
      case "put": ask(act, from(0, 3), from(0, 12), number()); break;
      case "move": ask(act, from(0, 3), from(0, 10), from(0, 3), from(0, 10), from(0, 10)); break;
      case "tensions":
      case "judge": ask(act, from(0, 3)); break;
      case "tell": ask(act, number()); break;
      case "count": ask(act, from(0, 8)); break;
      case "told": ask(act, from(1, 6)); break;
      case "sheetOf": sheetOf(); break;
      case "waitsOf": waitsOf(); break;
      default: ask(act); break;
    }
  }

  private int number() {
    return random.nextInt(3) == 0 ? odd() : random.nextInt(31) - 15;
  }

  private void reach() {
    ask("course", rows(), 0);
    int x = (int) model.call("course", new long[] {rows(), 0});
    int y = (int) model.call("course", new long[] {rows(), 1});
    boolean near = random.nextInt(4) > 0;
    int toX = near ? Math.max(-9, Math.min(9, x + random.nextInt(7) - 3)) : from(-9, 9);
    int toY = near ? Math.max(-9, Math.min(9, y + random.nextInt(7) - 3)) : from(-9, 9);
    for (int what = -2; what <= 4; what++) {
      if (random.nextBoolean()) {
        ask("reach", toX, toY, what);
      }
    }
    ask("reach", toX, toY, from(-2, 4));
  }

  /** A SHEET of what is so, or nearly so: for fits, judge, tensions. */
  private void sheetOf() {
    int what = random.nextInt(3);
    int sheet = random.nextInt(4);
    int many = Math.min(24, random.nextInt(rows() + 3));
    int water = random.nextInt(200);
    ask("sheet", sheet, random.nextInt(4) == 0 ? 8 : 16, many);
    for (int i = 0; i < many; i++) {
      int v = random.nextInt(19) - 9;
      if (what == 0 && i <= rows()) {
        v = (int) model.call("flow", new long[] {water, i, 0});
      } else if (what == 1 && i < rows()) {
        v = (int) model.call("rowIs", new long[] {i, 5});
      }
      ask("put", sheet, i, random.nextInt(30) == 0 ? v + 1 : v);
    }
    if (what == 0) {
      ask("fits", sheet, 0);
      ask("fits", sheet, 1);
    }
    ask(what == 1 ? "judge" : "tensions", sheet);
  }

  private void waitsOf() {
    ask("check");
    int many = random.nextInt(rows() + 2);
    for (int i = 0; i < many; i++) {
      int v = i < rows() ? model.all.rows.get(i).wide : 1;
      ask("tell", random.nextInt(30) == 0 ? v + 1 : v);
    }
    ask("check");
  }

  /** A TEXT, at times with a byte that is wrong, on THE TAPE; mostly read then. */
  private void tape() {
    int use = random.nextInt(2);
    StringBuilder s = new StringBuilder();
    piece(s, use == 0 ? "bwt" : "wtk", 0, 2 + random.nextInt(5));
    if (random.nextInt(4) == 0) {
      s.setCharAt(random.nextInt(s.length()), SIGNS.charAt(random.nextInt(SIGNS.length())));
    }
    if (random.nextInt(8) == 0) {
      s.append("|&<=>+-*/%!()5w".charAt(random.nextInt(15)));
    }
    for (int i = 0; i < s.length(); i += 8) {
      long word = 0;
      int n = Math.min(8, s.length() - i);
      for (int k = n - 1; k >= 0; k--) {
        word = word << 8 | s.charAt(i + k);
      }
      ask("feed", word, n);
    }
    if (random.nextInt(10) > 0) {
      ask("text", use);
    }
  }

  private void piece(StringBuilder s, String names, int open, int many) {
    for (int i = 0; i < many && s.length() < 50; i++) {
      if (i > 0) {
        s.append("|&<=>+-*/%+-*/%".charAt(random.nextInt(15)));
      }
      int not = random.nextInt(6) == 0 ? 1 : 0;
      s.append(not == 1 ? "!" : "");
      int how = random.nextInt(5);
      if (how == 0 && open < 6) {
        s.append('(');
        piece(s, names, open + 1 + not, 1 + random.nextInt(3));
        s.append(')');
      } else if (how == 1) {
        s.append(random.nextInt(new int[] {10, 100, 1000, 12000}[random.nextInt(4)]));
      } else {
        s.append(names.charAt(random.nextInt(3)));
      }
    }
  }
}
