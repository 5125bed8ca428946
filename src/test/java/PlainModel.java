import java.util.ArrayDeque;
import java.util.ArrayList;
import java.util.Deque;
import java.util.HashSet;
import java.util.List;
import java.util.Set;

/**
 * The document once more, by other means than KnitRiver's: lists, exceptions, classes of KINDS that stand
 * under one another, searches that try everything. What the two answer must be the same.
 */
final class PlainModel {
  static final int LOW = -1000000000;

  /** An ERROR on its way to the act that answers it. */
  static final class Refused extends RuntimeException {
    private static final long serialVersionUID = 1L;
    final int k;

    Refused(int k) {
      super(null, null, false, false);
      this.k = k;
    }
  }

  static final class Row {
    int kind, m, wide, tension, tied;

    Row(int km, int wide, int tension) {
      this.kind = km / 10;
      this.m = km % 10;
      this.wide = wide;
      this.tension = tension;
    }

    Row copy() {
      Row other = new Row(10 * kind + m, wide, tension);
      other.tied = tied;
      return other;
    }
  }

  static final class All {
    List<Row> rows = new ArrayList<>();
    int thread = 200, way = 0, season = 0, sea = 0, z = 1;
    List<Byte> tape = new ArrayList<>();
    List<Integer> waits = new ArrayList<>();
    String[] texts = new String[2];

    All copy() {
      All other = new All();
      for (Row row : rows) {
        other.rows.add(row.copy());
      }
      other.thread = thread;
      other.way = way;
      other.season = season;
      other.sea = sea;
      other.z = z;
      other.tape.addAll(tape);
      other.waits.addAll(waits);
      other.texts = texts.clone();
      return other;
    }
  }

  All all = new All();
  private All image = null;
  private int images = 0;
  private final int[][] sheets = new int[4][];
  private final int[] bits = new int[4];
  private List<Integer> trace = new ArrayList<>();
  private final int[] told = new int[7];

  // ---- one way in for all acts

  long call(String act, long[] a) {
    try {
      return answer(act, a);
    } catch (Refused e) {
      told[e.k]++;
      return LOW - e.k;
    }
  }

  private long answer(String act, long[] a) {
    int p = a.length > 0 ? (int) a[0] : 0;
    int q = a.length > 1 ? (int) a[1] : 0;
    int r = a.length > 2 ? (int) a[2] : 0;
    switch (act) {
      case "knit": return knit(p, q, r);
      case "rowIs": return rowIs(p, q);
      case "become": { Row row = row(p); from(0, 69, q); int was = row.kind; row.kind = q / 10; row.m = q % 10; return was; }
      case "as": { Row row = row(p); from(0, 6, q); if (!under(row.kind, q)) throw new Refused(5); return row.m; }
      case "tie": { Row row = row(p); from(0, 1, q); int was = row.tied; row.tied = q; return was; }
      case "drop": { Row row = row(p); if (row.wide == 1) throw new Refused(3); return --row.wide; }
      case "tense": { Row row = row(p); from(-9, 9, q); int was = row.tension; row.tension = q; return was; }
      case "pull": return pull(p);
      case "wind": return wind(p, q);
      case "feed": return feed(a[0], q);
      case "text": return text(p);
      case "untell": { from(0, 1, p); boolean was = all.texts[p] != null; all.texts[p] = null; return was ? 1 : 0; }
      case "law": { from(0, 1, p); return gives(p, q, r, (int) a[3]); }
      case "season": { from(0, 999, p); if (all.season == 9999) throw new Refused(3); return set(season(p)); }
      case "loose": return loose(p);
      case "seed": { int was = all.z; all.z = p; return was; }
      case "flow": return flow(p, q, r);
      case "course": { from(0, all.rows.size(), p); from(0, 1, q); return places(all.rows, p).get(p)[q]; }
      case "crosses": return crosses();
      case "reach": return reach(p, q, r);
      case "ease": return ease(p, q);
      case "odds": return odds(p);
      case "fits": return fits(p, q);
      case "voice": return voice(p, q, r);
      case "body": if (p < 0 || p >= trace.size()) throw new Refused(2); return trace.get(p);
      case "sheet": return sheet(p, q, r);
      case "put": { int[] s = sheet(p); if (q < 0 || q >= s.length) throw new Refused(1); s[q] = cut(bits[p], r); return 1; }
      case "move": return move(p, q, (int) a[2], (int) a[3], (int) a[4]);
      case "tensions": return tensions(p);
      case "judge": { int n = 0; for (int v : sheet(p)) { if (n >= all.rows.size() || yarn(all.rows.get(n)) != v) return n; n++; } return n; }
      case "image": image = all.copy(); return ++images;
      case "restore": if (image == null) throw new Refused(2); all = image.copy(); return all.season;
      case "tell": if (all.waits.size() == 24) throw new Refused(4); all.waits.add(p); return all.waits.size();
      case "check": return check();
      case "count": return count(p);
      case "told": from(1, 6, p); return told[p];
      default: throw new IllegalStateException(act);
    }
  }

  private static void from(int least, int most, int v) {
    if (v < least || v > most) {
      throw new Refused(1);
    }
  }

  private Row row(int i) {
    from(0, all.rows.size() - 1, i);
    return all.rows.get(i);
  }

  private static long set(Set<Integer> rows) {
    long v = 0;
    for (int i : rows) {
      v += 1L << i;
    }
    return v;
  }

  // ---- rows

  private static boolean under(int kind, int other) {
    switch (kind) {
      case 4: return other == 4 || other == 1 || other == 0;
      case 5: return other == 5 || other == 2 || other == 0;
      default: return other == kind || other == 0;
    }
  }

  private long knit(int km, int wide, int tension) {
    from(0, 69, km);
    from(1, 12, wide);
    from(-9, 9, tension);
    if (all.rows.size() == 15) {
      throw new Refused(4);
    }
    Row row = new Row(km, wide, tension);
    int yarn = yarn(row);
    if (all.thread < yarn) {
      throw new Refused(3);
    }
    all.thread -= yarn;
    all.rows.add(row);
    return yarn;
  }

  private long rowIs(int i, int what) {
    Row row = row(i);
    from(0, 7, what);
    int[] is = {row.kind, row.m, row.wide, row.tension, row.tied, yarn(row), holds(row, 0), bends(row)};
    return is[what];
  }

  private long pull(int to) {
    row(to);
    int many = 0;
    while (all.rows.size() > to) {
      Row last = all.rows.get(all.rows.size() - 1);
      if (last.tied == 1) {
        break;
      }
      all.thread += yarn(last);
      if (all.thread > 9999) {
        all.thread = 9999;
      }
      all.rows.remove(all.rows.size() - 1);
      many++;
    }
    return many;
  }

  private long wind(int what, int v) {
    from(0, 1, what);
    from(0, what == 0 ? 9999 : 3, v);
    int was = what == 0 ? all.thread : all.way;
    if (what == 0) {
      all.thread = v;
    } else {
      all.way = v;
    }
    return was;
  }

  private int says(Row row) {
    int w = row.wide;
    int t = row.tension;
    switch (row.kind) {
      case 0: return w + w - t;
      case 1: return w + w - t + 1;
      case 2: return (w + w - t) * 3 / 2;
      case 3: return (w + w - t) / 2;
      case 4: return w + w - t + 1 + row.m;
      case 5: return all.season % 4 == 3 ? (w + w - t) * 3 / 2 : (w + w - t) * 3 / 2 / 2;
      default: return w + w + w - t;
    }
  }

  private int yarn(Row row) {
    return gives(0, says(row), row.wide, row.tension);
  }

  private int holds(Row row, int more) {
    int t = Math.min(9, Math.max(-9, row.tension + more));
    return gives(1, row.wide, t, row.kind);
  }

  private int gives(int use, int a, int b, int c) {
    String text = all.texts[use];
    if (use == 0) {
      return Math.min(99, Math.max(1, text == null ? a : value(text, "bwt", a, b, c)));
    }
    return text == null ? a * (10 - b) : Math.min(999, Math.max(0, value(text, "wtk", a, b, c)));
  }

  private static int bends(Row row) {
    int[] purl = {-1, 0, 1};
    switch (row.kind) {
      case 1: return purl[row.m % 3];
      case 4: return 2 * purl[row.m % 3];
      case 6: return 2;
      default: return 0;
    }
  }

  // ---- texts: read by what may stand next, worked out by cutting at the loosest sign

  private long feed(long word, int n) {
    from(1, 8, n);
    if (all.tape.size() + n > 60) {
      throw new Refused(4);
    }
    for (int i = 0; i < n; i++) {
      all.tape.add((byte) (word & 255));
      word >>= 8;
    }
    return all.tape.size();
  }

  private long text(int use) {
    from(0, 1, use);
    StringBuilder s = new StringBuilder();
    for (byte b : all.tape) {
      s.append((char) (b & 255));
    }
    all.tape.clear();
    int fault = fault(s.toString(), use == 0 ? "bwt" : "wtk");
    if (fault >= 0) {
      return -10 - fault;
    }
    all.texts[use] = s.toString();
    return 1;
  }

  static int fault(String s, String names) {
    Deque<Character> open = new ArrayDeque<>();
    Deque<Boolean> compared = new ArrayDeque<>();
    compared.push(false);
    boolean wanted = true;
    int digits = 0;
    for (int i = 0; i < s.length(); i++) {
      char c = s.charAt(i);
      if (wanted) {
        if (c == '!' || c == '(') {
          if (open.size() == 5) {
            return i;
          }
          open.push(c);
          if (c == '(') {
            compared.push(false);
          }
        } else if ((c >= '0' && c <= '9') || names.indexOf(c) >= 0) {
          digits = c <= '9' ? 1 : 4;
          wanted = false;
          closeNots(open);
        } else {
          return i;
        }
      } else if (c >= '0' && c <= '9') {
        if (digits == 4) {
          return i;
        }
        digits++;
      } else if (c == ')') {
        if (open.isEmpty()) {
          return i;
        }
        open.pop();
        compared.pop();
        closeNots(open);
        digits = 4;
      } else {
        if ("|&<=>+-*/%".indexOf(c) < 0) {
          return i;
        }
        if ("<=>".indexOf(c) >= 0) {
          if (compared.pop()) {
            return i;
          }
          compared.push(true);
        } else if (c == '|' || c == '&') {
          compared.pop();
          compared.push(false);
        }
        wanted = true;
      }
    }
    return wanted || !open.isEmpty() ? s.length() : -1;
  }

  private static void closeNots(Deque<Character> open) {
    while (!open.isEmpty() && open.peek() == '!') {
      open.pop();
    }
  }

  static int value(String s, String names, int a, int b, int c) {
    for (String signs : new String[] {"|", "&", "<=>", "+-", "*/%"}) {
      int depth = 0;
      for (int i = s.length() - 1; i >= 0; i--) {
        char at = s.charAt(i);
        depth += at == ')' ? 1 : at == '(' ? -1 : 0;
        if (depth == 0 && signs.indexOf(at) >= 0) {
          int left = value(s.substring(0, i), names, a, b, c);
          int right = value(s.substring(i + 1), names, a, b, c);
          return joined(at, left, right);
        }
      }
    }
    if (s.charAt(0) == '!') {
      return value(s.substring(1), names, a, b, c) == 0 ? 1 : 0;
    }
    if (s.charAt(0) == '(') {
      return value(s.substring(1, s.length() - 1), names, a, b, c);
    }
    int name = names.indexOf(s.charAt(0));
    return name < 0 ? Integer.parseInt(s) : name == 0 ? a : name == 1 ? b : c;
  }

  private static int joined(char sign, int left, int right) {
    switch (sign) {
      case '|': return (left != 0) | (right != 0) ? 1 : 0;
      case '&': return (left != 0) & (right != 0) ? 1 : 0;
      case '<': return left < right ? 1 : 0;
      case '=': return left == right ? 1 : 0;
      case '>': return left > right ? 1 : 0;
      case '+': return left + right;
      case '-': return left - right;
      case '*': return left * right;
      case '/': return right == 0 ? 0 : (int) ((long) left / right);
      default: return right == 0 ? 0 : (int) ((long) left % right);
    }
  }

  // ---- seasons, what is, what would be

  private int[] comes(int water, int more) {
    int[] come = new int[all.rows.size() + 1];
    int c = water;
    for (int i = 0; i < come.length; i++) {
      come[i] = c;
      if (i < all.rows.size() && holds(all.rows.get(i), more) < c) {
        c = holds(all.rows.get(i), more);
      }
    }
    return come;
  }

  private Set<Integer> floods(int water, int more) {
    Set<Integer> rows = new HashSet<>();
    int[] come = comes(water, more);
    for (int i = 0; i < all.rows.size(); i++) {
      if (come[i] > holds(all.rows.get(i), more)) {
        rows.add(i);
      }
    }
    return rows;
  }

  private Set<Integer> season(int water) {
    Set<Integer> rows = floods(water, 0);
    int[] come = comes(water, 0);
    for (int i = 0; i < all.rows.size(); i++) {
      int t = all.rows.get(i).tension;
      t += rows.contains(i) ? -1 : come[i] == 0 ? 1 : 0;
      all.rows.get(i).tension = t < -9 ? -9 : t > 9 ? 9 : t;
    }
    all.sea += come[all.rows.size()];
    if (all.sea > 9999) {
      all.sea = 9999;
    }
    all.season++;
    return rows;
  }

  private int draw() {
    all.z = (int) (all.z * 1103515245L + 12345L);
    return all.z >>> 8;
  }

  private long loose(int n) {
    from(1, 30, n);
    if (all.season + n > 9999) {
      throw new Refused(3);
    }
    Set<Integer> any = new HashSet<>();
    for (int i = 0; i < n; i++) {
      any.addAll(season(draw() % 120));
      if (!all.rows.isEmpty()) {
        Row row = all.rows.get(draw() % all.rows.size());
        if (draw() % 2 == 1 && row.wide > 1) {
          row.wide--;
        }
      }
    }
    return set(any);
  }

  private long flow(int much, int row, int what) {
    from(0, 999, much);
    from(0, all.rows.size(), row);
    from(0, 1, what);
    return what == 0 ? comes(much, 0)[row] : set(floods(much, 0));
  }

  private static final int[][] WAYS = {{0, -1}, {1, 0}, {0, 1}, {-1, 0}};

  private List<int[]> places(List<Row> rows, int many) {
    List<int[]> places = new ArrayList<>();
    int way = all.way;
    int x = 0;
    int y = 0;
    places.add(new int[] {x, y});
    for (Row row : rows.subList(0, many)) {
      way = (way + bends(row) + 4) % 4;
      x += WAYS[way][0];
      y += WAYS[way][1];
      places.add(new int[] {x, y});
    }
    return places;
  }

  private long crosses() {
    Set<Integer> seen = new HashSet<>();
    int many = 0;
    for (int[] place : places(all.rows, all.rows.size())) {
      if (!seen.add(1000 * place[0] + place[1])) {
        many++;
      }
    }
    return many;
  }

  private static final int[] STITCHES = {0, 10, 12, 60};
  private List<Integer> best;
  private int bestYarn;

  private long reach(int x, int y, int what) {
    from(-9, 9, x);
    from(-9, 9, y);
    from(-2, 4, what);
    best = null;
    int[] end = places(all.rows, all.rows.size()).get(all.rows.size());
    int way = all.way;
    for (Row row : all.rows) {
      way = (way + bends(row) + 4) % 4;
    }
    for (int n = 0; n <= 5 && best == null; n++) {
      if (all.rows.size() + n <= 15) {
        tryAll(n, new ArrayList<>(), way, x - end[0], y - end[1]);
      }
    }
    if (best == null) {
      throw new Refused(2);
    }
    return what == -2 ? best.size() : what == -1 ? bestYarn : what < best.size() ? best.get(what) : -1;
  }

  private void tryAll(int n, List<Integer> row, int way, int acrossLeft, int downLeft) {
    if (n == 0) {
      if (acrossLeft == 0 && downLeft == 0) {
        int yarn = 0;
        for (int km : row) {
          yarn += yarn(new Row(km, 2, 0));
        }
        if (best == null || yarn < bestYarn) {
          best = new ArrayList<>(row);
          bestYarn = yarn;
        }
      }
      return;
    }
    for (int km : STITCHES) {
      int goes = (way + bends(new Row(km, 2, 0)) + 4) % 4;
      row.add(km);
      tryAll(n - 1, row, goes, acrossLeft - WAYS[goes][0], downLeft - WAYS[goes][1]);
      row.remove(row.size() - 1);
    }
  }

  private long ease(int much, int what) {
    from(0, 999, much);
    from(0, 1, what);
    int number = 0;
    int fewest = 99;
    for (int more = 9; more >= -9; more--) {
      int many = floods(much, more).size();
      if (many <= fewest) {
        fewest = many;
        number = more;
      }
    }
    return what == 0 ? number : fewest;
  }

  private long odds(int part) {
    from(0, 1, part);
    int good = 0;
    for (int water = 0; water < 50; water++) {
      good += floods(water, 0).isEmpty() ? 1 : 0;
    }
    int below = 50;
    for (int by : new int[] {2, 5, 5}) {
      if (good % by == 0 && below % by == 0) {
        good /= by;
        below /= by;
      }
    }
    return part == 0 ? good : below;
  }

  private long fits(int sheet, int what) {
    from(0, 3, sheet);
    from(0, 1, what);
    int[] told = sheet(sheet);
    int ways = 0;
    int least = -1;
    for (int water = 999; water >= 0; water--) {
      int[] come = comes(water, 0);
      boolean so = told.length <= come.length;
      for (int i = 0; so && i < told.length; i++) {
        so = told[i] == come[i];
      }
      if (so) {
        ways++;
        least = water;
      }
    }
    if (what == 1 && ways == 0) {
      throw new Refused(2);
    }
    return what == 0 ? ways : least;
  }

  // ---- voices: the classes that the BODIES stand in

  private List<Integer> begun;

  private class Plain {
    final int k;
    final int m;

    Plain(int k, int m) {
      this.k = k;
      this.m = m;
    }

    int runs(int x) {
      begun.add(10);
      return x + k;
    }

    int turns(int x) {
      begun.add(11);
      return runs(x) * 2;
    }

    int pools(int x) {
      begun.add(12);
      return turns(x) - m;
    }

    int parts(int x) {
      begun.add(13);
      if (m == k) {
        throw new Refused(6);
      }
      return x / (m - k);
    }
  }

  private class Purl extends Plain {
    Purl(int k, int m) {
      super(k, m);
    }

    @Override
    int runs(int x) {
      begun.add(20);
      return super.runs(x) - 4;
    }

    @Override
    int parts(int x) {
      begun.add(21);
      return super.parts(x) + turns(1);
    }
  }

  private class Rib extends Plain {
    Rib(int k, int m) {
      super(k, m);
    }

    @Override
    int turns(int x) {
      begun.add(30);
      return 0 - super.turns(x);
    }
  }

  private final class Lace extends Plain {
    Lace(int k, int m) {
      super(k, m);
    }

    @Override
    int pools(int x) {
      begun.add(40);
      return super.pools(x / 2);
    }
  }

  private final class Cable extends Purl {
    Cable(int k, int m) {
      super(k, m);
    }

    @Override
    int runs(int x) {
      begun.add(50);
      return super.runs(x) * 3;
    }

    @Override
    int pools(int x) {
      begun.add(51);
      return super.pools(x) ^ k;
    }
  }

  private final class Felt extends Rib {
    Felt(int k, int m) {
      super(k, m);
    }

    @Override
    int turns(int x) {
      begun.add(60);
      return super.turns(x + 1);
    }
  }

  private final class Heel extends Plain {
    Heel(int k, int m) {
      super(k, m);
    }

    @Override
    int runs(int x) {
      begun.add(70);
      return 9;
    }

    @Override
    int turns(int x) {
      begun.add(71);
      return super.turns(x) + m;
    }
  }

  private Plain speaker(int kind, int k, int m) {
    switch (kind) {
      case 0: return new Plain(k, m);
      case 1: return new Purl(k, m);
      case 2: return new Rib(k, m);
      case 3: return new Lace(k, m);
      case 4: return new Cable(k, m);
      case 5: return new Felt(k, m);
      default: return new Heel(k, m);
    }
  }

  private long voice(int i, int voice, int x) {
    Row row = row(i);
    from(0, 3, voice);
    Plain speaker = speaker(row.kind, i, row.m);
    begun = new ArrayList<>();
    int v = voice == 0 ? speaker.runs(x) : voice == 1 ? speaker.turns(x) : voice == 2 ? speaker.pools(x) : speaker.parts(x);
    trace = begun;
    return v;
  }

  // ---- sheets, what waits

  private int[] sheet(int i) {
    from(0, 3, i);
    if (sheets[i] == null) {
      throw new Refused(2);
    }
    return sheets[i];
  }

  private static int cut(int bits, int v) {
    return v << (32 - bits) >> (32 - bits);
  }

  private long sheet(int i, int ofBits, int n) {
    from(0, 3, i);
    if (ofBits == 0) {
      sheets[i] = null;
      return 1;
    }
    if (ofBits != 8 && ofBits != 16 && ofBits != 32) {
      throw new Refused(1);
    }
    if (n < 0) {
      throw new Refused(3);
    }
    from(0, 24, n);
    sheets[i] = new int[n];
    bits[i] = ofBits;
    return 1;
  }

  private long move(int i, int at, int other, int to, int n) {
    from(0, 3, i);
    from(0, 3, other);
    int[] a = sheet(i);
    int[] b = sheet(other);
    if (bits[i] != bits[other]) {
      throw new Refused(5);
    }
    if (n < 0 || at < 0 || to < 0 || (long) at + n > a.length || (long) to + n > b.length) {
      throw new Refused(1);
    }
    int[] were = a.clone();
    for (int k = 0; k < n; k++) {
      b[to + k] = were[at + k];
    }
    return n;
  }

  private long tensions(int i) {
    int many = 0;
    for (int v : sheet(i)) {
      if (v < -9 || v > 9 || many == all.rows.size()) {
        return many;
      }
      all.rows.get(many++).tension = v;
    }
    return many;
  }

  private long check() {
    List<Integer> waits = new ArrayList<>(all.waits);
    all.waits.clear();
    for (int i = 0; i < waits.size(); i++) {
      if (i >= all.rows.size() || all.rows.get(i).wide != waits.get(i)) {
        return i + 1;
      }
    }
    return 0;
  }

  private long count(int what) {
    from(0, 8, what);
    int[] counts = {
      all.rows.size(), all.thread, all.way, all.season, all.sea, all.tape.size(), all.waits.size(), trace.size(), all.z
    };
    return counts[what];
  }
}
