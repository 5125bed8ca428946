import java.util.HashMap;
import java.util.Map;
import java.util.Random;

/**
 * All short TEXTS, and all rows of stitches of a REACH, tried one by one by the words of the document: a TEXT is what the
 * document's lines can be cut into; a FAULT is where no TEXT goes on; of all rows of stitches the best leads to a place.
 */
public final class AllShortTest {
  private static final int MOST_CALLS = 500;
  private static final int NONE = -1000000002;

  private AllShortTest() {}

  public static void main(String[] args) {
    Due due = new Due("all that is short");
    new Texts(due).all();
    new Stitches(due).all();
    due.end();
  }

  /** Puts a text on THE TAPE: how many calls it took. */
  private static int feed(KnitRiver river, String text) {
    int calls = 0;
    for (int i = 0; i < text.length(); i += 8) {
      int n = Math.min(8, text.length() - i);
      long word = 0;
      for (int k = n - 1; k >= 0; k--) {
        word = word << 8 | text.charAt(i + k);
      }
      river.feed(word, n);
      calls++;
    }
    return calls;
  }

  // ---- TEXTS

  private static final class Texts {
    private static final String[] SIGNS = {"|", "&", "<=>", "+-", "*/%"};

    private final Due due;
    private final Map<String, Boolean> goesOn = new HashMap<>();
    private KnitRiver river = new KnitRiver();
    private int calls = 0;
    private String text = "";
    private byte[][][][] known = null;

    Texts(Due due) {
      this.due = due;
    }

    void all() {
      from("", "b1!()<+", 5);
      from("", "|&=w*%", 4);
      from("", "!(b)", 8);
      from("", "b<|(", 6);
      for (char c = 0; c < 256; c++) {
        one("" + c);
        one("b" + c);
        one("b+" + c);
        one("1" + c);
        one("12345678901234567890".substring(0, c % 20) + c);
      }
    }

    private void from(String start, String signs, int more) {
      one(start);
      for (int i = 0; i < signs.length() && more > 0; i++) {
        from(start + signs.charAt(i), signs, more - 1);
      }
    }

    private void one(String s) {
      if (calls > MOST_CALLS) {
        river = new KnitRiver();
        calls = 0;
      }
      calls += feed(river, s) + 1;
      due.is("text(0) of \"" + s + "\"", river.text(0), isText(s) ? 1 : -10 - fault(s));
    }

    private int fault(String s) {
      for (int i = 1; i <= s.length(); i++) {
        if (!goesOn.computeIfAbsent(s.substring(0, i), this::someTextStartsSo)) {
          return i - 1;
        }
      }
      return s.length();
    }

    /** What starts a TEXT becomes one by a NAME, if it wants one, and by closing what is open. */
    private boolean someTextStartsSo(String start) {
      for (String close = ""; close.length() <= 5; close += ")") {
        if (isText(start + close) || isText(start + "b" + close)) {
          return true;
        }
      }
      return false;
    }

    private boolean isText(String s) {
      text = s;
      int n = s.length();
      known = new byte[6][n + 1][n + 1][6];
      return is(0, 0, n, 0);
    }

    /** Whether bytes i .. j - 1 are a T, A, B, S, P, Q (rule 0 .. 5) of the document, with so many open. */
    private boolean is(int rule, int i, int j, int open) {
      if (i >= j) {
        return false;
      }
      if (known[rule][i][j][open] == 0) {
        boolean so = rule < 5 ? is(rule + 1, i, j, open) || joined(rule, i, j, open) : isPiece(i, j, open);
        known[rule][i][j][open] = (byte) (so ? 1 : 2);
      }
      return known[rule][i][j][open] == 1;
    }

    private boolean joined(int rule, int i, int j, int open) {
      int left = rule == 2 ? 3 : rule;
      for (int k = i + 1; k < j - 1; k++) {
        if (SIGNS[rule].indexOf(text.charAt(k)) >= 0 && is(left, i, k, open) && is(rule + 1, k + 1, j, open)) {
          return true;
        }
      }
      return false;
    }

    private boolean isPiece(int i, int j, int open) {
      String s = text.substring(i, j);
      if (s.startsWith("!")) {
        return open < 5 && is(5, i + 1, j, open + 1);
      }
      if (s.startsWith("(")) {
        return open < 5 && s.endsWith(")") && is(0, i + 1, j - 1, open + 1);
      }
      return s.matches("[0-9]{1,4}|[bwt]");
    }
  }

  // ---- stitches

  private static final class Stitches {
    private static final int[] KM = {0, 10, 12, 60};
    private static final int[] BENDS = {0, 3, 1, 2};
    private static final int[] SAYS = {4, 5, 5, 6};
    private static final String[] YARNS = {
      "", "b*b%7", "b%3", "9-b", "(b=4)*3+(b=5)*2+(b=6)*9", "b%2*5+1", "1", "(b>4)*9",
    };

    private final Due due;
    private final Random random = new Random(5);
    private KnitRiver river = null;
    private int room = 0;
    private int fromX = 0;
    private int fromY = 0;
    private int goes = 0;
    private final int[] takes = new int[KM.length];

    Stitches(Due due) {
      this.due = due;
    }

    void all() {
      for (int run = 0; run < 60; run++) {
        river();
        for (int places = 0; places < 40; places++) {
          place(fromX + random.nextInt(9) - 4, fromY + random.nextInt(9) - 4);
        }
      }
    }

    private void river() {
      river = new KnitRiver();
      river.wind(0, 9999);
      river.wind(1, random.nextInt(4));
      feed(river, YARNS[random.nextInt(YARNS.length)]);
      river.text(0);
      int rows = random.nextInt(16);
      goes = river.count(2);
      for (int i = 0; i < rows; i++) {
        river.knit(random.nextInt(70), 1 + random.nextInt(12), random.nextInt(19) - 9);
        goes = (goes + river.rowIs(i, 7) + 4) % 4;
      }
      room = 15 - rows;
      fromX = river.course(rows, 0);
      fromY = river.course(rows, 1);
      for (int i = 0; i < KM.length; i++) {
        takes[i] = river.law(0, SAYS[i], 2, 0);
      }
    }

    private void place(int x, int y) {
      if (Math.abs(x) > 9 || Math.abs(y) > 9) {
        return;
      }
      int[] best = best(x, y);
      int yarn = 0;
      for (int i = 0; best != null && i < best.length; i++) {
        yarn += takes[best[i]];
      }
      due.is("how many", river.reach(x, y, -2), best == null ? NONE : best.length);
      due.is("their YARN", river.reach(x, y, -1), best == null ? NONE : yarn);
      for (int i = 0; i < 5; i++) {
        due.is("stitch " + i, river.reach(x, y, i), best == null ? NONE : i < best.length ? KM[best[i]] : -1);
      }
    }

    private int[] best(int x, int y) {
      int[] best = null;
      int least = Integer.MAX_VALUE;
      for (int many = 0; many <= Math.min(5, room) && best == null; many++) {
        for (int row = 0; row < 1 << 2 * many; row++) {
          int[] stitches = new int[many];
          for (int i = 0; i < many; i++) {
            stitches[i] = row >> 2 * (many - 1 - i) & 3;
          }
          int yarn = yarnIfItLeads(stitches, x, y);
          if (yarn < least) {
            least = yarn;
            best = stitches;
          }
        }
      }
      return best;
    }

    /** The YARN of a row of stitches that leads to a place; the most there is, if it leads elsewhere. */
    private int yarnIfItLeads(int[] stitches, int x, int y) {
      int atX = fromX;
      int atY = fromY;
      int way = goes;
      int yarn = 0;
      for (int stitch : stitches) {
        way = (way + BENDS[stitch]) % 4;
        atX += way == 1 ? 1 : way == 3 ? -1 : 0;
        atY += way == 2 ? 1 : way == 0 ? -1 : 0;
        yarn += takes[stitch];
      }
      return atX == x && atY == y ? yarn : Integer.MAX_VALUE;
    }
  }
}
