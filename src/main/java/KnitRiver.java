/**
 * Rivers that are knitted, row by row, from the spring to the sea; ../shared/DOC.md is the document.
 *
 * <p>The acts look at what they are given, in the document's order, and leave the work to the classes
 * inside. All rows are made with the object and used again, as what a run makes is counted.
 */
public final class KnitRiver {
  private static final int LOW = -1000000000;
  private static final int BEYOND = 1;
  private static final int NONE = 2;
  private static final int STATE = 3;
  private static final int FULL = 4;
  private static final int KIND = 5;
  private static final int PARTED = 6;

  private static final int YARN = 0;
  private static final int HOLDS = 1;

  private static final int MOST_ROWS = 15;
  private static final int MOST_WIDE = 12;
  private static final int MOST_TENSION = 9;
  private static final int MOST_BYTES = 60;
  private static final int MOST_NUMBERS = 24;
  private static final int MOST_WATER = 999;
  private static final int MOST = 9999;
  private static final int SHEETS = 4;

  private final River now = new River();
  private final River kept = new River();
  private final Reader reader = new Reader();
  private final Course path = new Course();
  private final Reach way = new Reach();
  private final Voices voices = new Voices();
  private final Sheet[] sheets = new Sheet[SHEETS];
  private final int[] errors = new int[PARTED + 1];
  private int images = 0;

  public KnitRiver() {
    for (int i = 0; i < SHEETS; i++) {
      sheets[i] = new Sheet();
    }
  }

  // ---- rows

  public int knit(int km, int wide, int tension) {
    if (!isStitch(km) || !within(wide, 1, MOST_WIDE) || !isTension(tension)) {
      return refuse(BEYOND);
    }
    if (now.rows >= MOST_ROWS) {
      return refuse(FULL);
    }
    int yarn = now.yarnFor(km, wide, tension);
    if (now.thread < yarn) {
      return refuse(STATE);
    }
    now.addRow(km, wide, tension);
    now.thread -= yarn;
    return yarn;
  }

  public int rowIs(int row, int what) {
    if (!isRow(row)) {
      return refuse(BEYOND);
    }
    switch (what) {
      case 0: return now.kind[row];
      case 1: return now.m[row];
      case 2: return now.wide[row];
      case 3: return now.tension[row];
      case 4: return now.tied[row];
      case 5: return now.yarnOf(row);
      case 6: return now.holdsOf(row, 0);
      case 7: return Kinds.bends(now.kind[row], now.m[row]);
      default: return refuse(BEYOND);
    }
  }

  public int become(int row, int km) {
    if (!isRow(row) || !isStitch(km)) {
      return refuse(BEYOND);
    }
    int was = now.kind[row];
    now.kind[row] = km / 10;
    now.m[row] = km % 10;
    return was;
  }

  public int as(int row, int kind) {
    if (!isRow(row) || !within(kind, Kinds.PLAIN, Kinds.HEEL)) {
      return refuse(BEYOND);
    }
    return Kinds.isOrIsUnder(now.kind[row], kind) ? now.m[row] : refuse(KIND);
  }

  public int tie(int row, int is) {
    if (!isRow(row) || !within(is, 0, 1)) {
      return refuse(BEYOND);
    }
    int was = now.tied[row];
    now.tied[row] = is;
    return was;
  }

  public int drop(int row) {
    if (!isRow(row)) {
      return refuse(BEYOND);
    }
    if (now.wide[row] <= 1) {
      return refuse(STATE);
    }
    now.wide[row]--;
    return now.wide[row];
  }

  public int tense(int row, int tension) {
    if (!isRow(row) || !isTension(tension)) {
      return refuse(BEYOND);
    }
    int was = now.tension[row];
    now.tension[row] = tension;
    return was;
  }

  public int pull(int row) {
    return isRow(row) ? now.undo(row) : refuse(BEYOND);
  }

  public int wind(int what, int v) {
    int was;
    if (what == 0 && within(v, 0, MOST)) {
      was = now.thread;
      now.thread = v;
    } else if (what == 1 && within(v, 0, 3)) {
      was = now.way;
      now.way = v;
    } else {
      was = refuse(BEYOND);
    }
    return was;
  }

  // ---- texts

  public int feed(long word, int n) {
    if (!within(n, 1, 8)) {
      return refuse(BEYOND);
    }
    if (now.bytes + n > MOST_BYTES) {
      return refuse(FULL);
    }
    for (int i = 0; i < n; i++) {
      now.tape[now.bytes] = (byte) (word >>> (8 * i));
      now.bytes++;
    }
    return now.bytes;
  }

  public int text(int use) {
    if (!isUse(use)) {
      return refuse(BEYOND);
    }
    boolean right = reader.reads(now.tape, now.bytes, use);
    now.bytes = 0;
    if (!right) {
      return -10 - reader.at;
    }
    now.texts[use].take(reader.code, reader.size);
    return 1;
  }

  public int untell(int use) {
    if (!isUse(use)) {
      return refuse(BEYOND);
    }
    int was = now.texts[use].known ? 1 : 0;
    now.texts[use].known = false;
    return was;
  }

  public int law(int use, int a, int b, int c) {
    return isUse(use) ? now.given(use, a, b, c) : refuse(BEYOND);
  }

  // ---- seasons

  public int season(int much) {
    if (!isWater(much)) {
      return refuse(BEYOND);
    }
    return now.season < MOST ? now.pass(much) : refuse(STATE);
  }

  public int loose(int n) {
    if (!within(n, 1, 30)) {
      return refuse(BEYOND);
    }
    if (now.season + n > MOST) {
      return refuse(STATE);
    }
    int flooded = 0;
    for (int i = 0; i < n; i++) {
      flooded |= now.pass(now.draw() % 120);
      now.wear();
    }
    return flooded;
  }

  public int seed(int v) {
    int was = now.z;
    now.z = v;
    return was;
  }

  // ---- what is, what would be

  public int flow(int much, int row, int what) {
    if (!isWater(much) || !within(row, 0, now.rows) || !within(what, 0, 1)) {
      return refuse(BEYOND);
    }
    int flooded = now.waters(much, 0);
    return what == 0 ? now.comes[row] : flooded;
  }

  public int course(int row, int what) {
    if (!within(row, 0, now.rows) || !within(what, 0, 1)) {
      return refuse(BEYOND);
    }
    path.follow(now);
    return what == 0 ? path.across[row] : path.down[row];
  }

  public int crosses() {
    path.follow(now);
    return path.crossings();
  }

  public int reach(int x, int y, int what) {
    if (!within(x, -9, 9) || !within(y, -9, 9) || !within(what, -2, Reach.MOST_STITCHES - 1)) {
      return refuse(BEYOND);
    }
    path.follow(now);
    if (!way.finds(now, path, x, y)) {
      return refuse(NONE);
    }
    if (what == -2) {
      return way.many;
    }
    return what == -1 ? way.yarn : way.stitch(what);
  }

  public int ease(int much, int what) {
    if (!isWater(much) || !within(what, 0, 1)) {
      return refuse(BEYOND);
    }
    int best = -MOST_TENSION;
    int fewest = MOST_ROWS + 1;
    for (int more = -MOST_TENSION; more <= MOST_TENSION; more++) {
      int many = Integer.bitCount(now.waters(much, more));
      if (many < fewest) {
        fewest = many;
        best = more;
      }
    }
    return what == 0 ? best : fewest;
  }

  public int odds(int part) {
    if (!within(part, 0, 1)) {
      return refuse(BEYOND);
    }
    int all = 50;
    // Where no ROW FLOODS, all WATER comes to each: so it is enough to know the ROW that HOLDS least.
    int dry = Math.min(all, now.leastHolds() + 1);
    int by = commonDivisor(all, dry);
    return (part == 0 ? dry : all) / (by > 0 ? by : 1);
  }

  public int fits(int sheet, int what) {
    if (!isSheet(sheet) || !within(what, 0, 1)) {
      return refuse(BEYOND);
    }
    Sheet told = sheets[sheet];
    if (told.bits == 0) {
      return refuse(NONE);
    }
    if (told.size == 0) {
      return what == 0 ? MOST_WATER + 1 : 0;
    }
    // The first number is WATER itself, so there is one way at most.
    int water = told.numbers[0];
    boolean so = isWater(water) && comesAsTold(water, told);
    if (what == 0) {
      return so ? 1 : 0;
    }
    return so ? water : refuse(NONE);
  }

  // ---- voices, sheets, images, what is told

  public int voice(int row, int voice, int x) {
    if (!isRow(row) || !within(voice, Voices.RUNS, Voices.PARTS)) {
      return refuse(BEYOND);
    }
    return voices.utters(now, row, voice, x) ? voices.answer : refuse(PARTED);
  }

  public int body(int i) {
    return within(i, 0, voices.traced - 1) ? voices.trace[i] : refuse(NONE);
  }

  public int sheet(int sheet, int bits, int n) {
    if (!isSheet(sheet) || (bits != 0 && bits != 8 && bits != 16 && bits != 32)) {
      return refuse(BEYOND);
    }
    if (bits == 0) {
      sheets[sheet].make(0, 0);
      return 1;
    }
    if (n < 0) {
      return refuse(STATE);
    }
    if (n > MOST_NUMBERS) {
      return refuse(BEYOND);
    }
    sheets[sheet].make(bits, n);
    return 1;
  }

  public int put(int sheet, int i, int v) {
    int why = whyNoSheet(sheet);
    if (why != 0) {
      return refuse(why);
    }
    if (!within(i, 0, sheets[sheet].size - 1)) {
      return refuse(BEYOND);
    }
    sheets[sheet].write(i, v);
    return 1;
  }

  public int move(int sheet, int i, int other, int j, int n) {
    if (!isSheet(sheet) || !isSheet(other)) {
      return refuse(BEYOND);
    }
    Sheet from = sheets[sheet];
    Sheet to = sheets[other];
    if (from.bits == 0 || to.bits == 0) {
      return refuse(NONE);
    }
    if (from.bits != to.bits) {
      return refuse(KIND);
    }
    if (!from.has(i, n) || !to.has(j, n)) {
      return refuse(BEYOND);
    }
    System.arraycopy(from.numbers, i, to.numbers, j, n);
    return n;
  }

  public int tensions(int sheet) {
    int why = whyNoSheet(sheet);
    if (why != 0) {
      return refuse(why);
    }
    Sheet told = sheets[sheet];
    int many = 0;
    while (many < told.size && many < now.rows && isTension(told.numbers[many])) {
      now.tension[many] = told.numbers[many];
      many++;
    }
    return many;
  }

  public int judge(int sheet) {
    int why = whyNoSheet(sheet);
    if (why != 0) {
      return refuse(why);
    }
    Sheet told = sheets[sheet];
    int right = 0;
    while (right < told.size && right < now.rows && told.numbers[right] == now.yarnOf(right)) {
      right++;
    }
    return right;
  }

  public int image() {
    kept.copy(now);
    images++;
    return images;
  }

  public int restore() {
    if (images == 0) {
      return refuse(NONE);
    }
    now.copy(kept);
    return now.season;
  }

  public int tell(int v) {
    if (now.waiting >= MOST_NUMBERS) {
      return refuse(FULL);
    }
    now.waits[now.waiting] = v;
    now.waiting++;
    return now.waiting;
  }

  public int check() {
    int many = now.waiting;
    now.waiting = 0;
    for (int i = 0; i < many; i++) {
      if (i >= now.rows || now.waits[i] != now.wide[i]) {
        return 1 + i;
      }
    }
    return 0;
  }

  public int count(int what) {
    switch (what) {
      case 0: return now.rows;
      case 1: return now.thread;
      case 2: return now.way;
      case 3: return now.season;
      case 4: return now.sea;
      case 5: return now.bytes;
      case 6: return now.waiting;
      case 7: return voices.traced;
      case 8: return now.z;
      default: return refuse(BEYOND);
    }
  }

  public int told(int k) {
    return within(k, BEYOND, PARTED) ? errors[k] : refuse(BEYOND);
  }

  // ---- what the acts ask

  /** Counts an ERROR and gives what answers it. */
  private int refuse(int error) {
    if (within(error, BEYOND, PARTED)) {
      errors[error]++;
    }
    return LOW - error;
  }

  private boolean isRow(int row) {
    return within(row, 0, now.rows - 1);
  }

  private static boolean isStitch(int km) {
    return within(km, 0, 10 * Kinds.HEEL + 9);
  }

  private static boolean isTension(int tension) {
    return within(tension, -MOST_TENSION, MOST_TENSION);
  }

  private static boolean isWater(int much) {
    return within(much, 0, MOST_WATER);
  }

  private static boolean isUse(int use) {
    return within(use, YARN, HOLDS);
  }

  private static boolean isSheet(int sheet) {
    return within(sheet, 0, SHEETS - 1);
  }

  /** Which ERROR a SHEET is that is not there; 0 if it is there. */
  private int whyNoSheet(int sheet) {
    if (!isSheet(sheet)) {
      return BEYOND;
    }
    return sheets[sheet].bits == 0 ? NONE : 0;
  }

  /** A number behind the one for THE SEA tells of nothing that is there, so it is never so. */
  private boolean comesAsTold(int water, Sheet told) {
    now.waters(water, 0);
    for (int i = 0; i < told.size; i++) {
      if (i > now.rows || told.numbers[i] != now.comes[i]) {
        return false;
      }
    }
    return true;
  }

  private static boolean within(int v, int least, int most) {
    return v >= least && v <= most;
  }

  private static int held(int v, int least, int most) {
    return Math.max(least, Math.min(most, v));
  }

  private static int commonDivisor(int a, int b) {
    int more = a;
    int less = b;
    for (int i = 0; i < 64 && less > 0; i++) {
      int rest = more % less;
      more = less;
      less = rest;
    }
    return more;
  }

  /** What the KINDS say. */
  private static final class Kinds {
    static final int PLAIN = 0;
    static final int PURL = 1;
    static final int RIB = 2;
    static final int LACE = 3;
    static final int CABLE = 4;
    static final int FELT = 5;
    static final int HEEL = 6;

    /** The KIND that each one stands under; -1: none. */
    private static final int[] ABOVE = {-1, PLAIN, PLAIN, PLAIN, PURL, RIB, PLAIN};

    static int above(int kind) {
      return within(kind, PLAIN, HEEL) ? ABOVE[kind] : -1;
    }

    static boolean isOrIsUnder(int kind, int other) {
      int at = kind;
      for (int up = 0; up <= HEEL && at >= 0; up++) {
        if (at == other) {
          return true;
        }
        at = above(at);
      }
      return false;
    }

    static int yarn(int km, int wide, int tension, int season) {
      int plain = 2 * wide - tension;
      int rib = 3 * plain / 2;
      switch (km / 10) {
        case PURL: return plain + 1;
        case RIB: return rib;
        case LACE: return plain / 2;
        case CABLE: return plain + 1 + km % 10;
        case FELT: return season % 4 == 3 ? rib : rib / 2;
        case HEEL: return plain + wide;
        default: return plain;
      }
    }

    static int bends(int kind, int m) {
      int purl = m % 3 - 1;
      switch (kind) {
        case PURL: return purl;
        case CABLE: return 2 * purl;
        case HEEL: return 2;
        default: return 0;
      }
    }
  }

  /** All that an IMAGE keeps. */
  private static final class River {
    final int[] kind = new int[MOST_ROWS];
    final int[] m = new int[MOST_ROWS];
    final int[] wide = new int[MOST_ROWS];
    final int[] tension = new int[MOST_ROWS];
    final int[] tied = new int[MOST_ROWS];
    int rows = 0;
    int thread = 200;
    int way = 0;
    int season = 0;
    int sea = 0;
    int z = 1;
    final byte[] tape = new byte[MOST_BYTES];
    int bytes = 0;
    final int[] waits = new int[MOST_NUMBERS];
    int waiting = 0;
    final Text[] texts = new Text[HOLDS + 1];

    /** How much comes to each ROW, at last to THE SEA: what waters() worked out latest. */
    final int[] comes = new int[MOST_ROWS + 1];

    River() {
      texts[YARN] = new Text();
      texts[HOLDS] = new Text();
    }

    void copy(River other) {
      System.arraycopy(other.kind, 0, kind, 0, MOST_ROWS);
      System.arraycopy(other.m, 0, m, 0, MOST_ROWS);
      System.arraycopy(other.wide, 0, wide, 0, MOST_ROWS);
      System.arraycopy(other.tension, 0, tension, 0, MOST_ROWS);
      System.arraycopy(other.tied, 0, tied, 0, MOST_ROWS);
      rows = other.rows;
      thread = other.thread;
      way = other.way;
      season = other.season;
      sea = other.sea;
      z = other.z;
      System.arraycopy(other.tape, 0, tape, 0, MOST_BYTES);
      bytes = other.bytes;
      System.arraycopy(other.waits, 0, waits, 0, MOST_NUMBERS);
      waiting = other.waiting;
      texts[YARN].copy(other.texts[YARN]);
      texts[HOLDS].copy(other.texts[HOLDS]);
    }

    void addRow(int km, int w, int t) {
      if (rows < MOST_ROWS) {
        kind[rows] = km / 10;
        m[rows] = km % 10;
        wide[rows] = w;
        tension[rows] = t;
        tied[rows] = 0;
        rows++;
      }
    }

    int yarnFor(int km, int w, int t) {
      return given(YARN, Kinds.yarn(km, w, t, season), w, t);
    }

    int yarnOf(int row) {
      return yarnFor(10 * kind[row] + m[row], wide[row], tension[row]);
    }

    /** What a ROW HOLDS if its TENSION is so much more. */
    int holdsOf(int row, int more) {
      int t = held(tension[row] + more, -MOST_TENSION, MOST_TENSION);
      return given(HOLDS, wide[row], t, kind[row]);
    }

    int given(int use, int a, int b, int c) {
      Text text = texts[use];
      if (use == YARN) {
        return held(text.known ? text.workedOut(a, b, c) : a, 1, 99);
      }
      // Without a TEXT the document says "held likewise" of YARN, but not of HOLDS.
      return text.known ? held(text.workedOut(a, b, c), 0, 999) : a * (10 - b);
    }

    int leastHolds() {
      int least = MOST_WATER;
      for (int row = 0; row < rows; row++) {
        least = Math.min(least, holdsOf(row, 0));
      }
      return least;
    }

    int undo(int first) {
      int many = 0;
      for (int last = rows - 1; last >= first && tied[last] == 0; last--) {
        thread = Math.min(MOST, thread + yarnOf(last));
        rows = last;
        many++;
      }
      return many;
    }

    /** Works out how much comes to each, TENSIONS being so much more; gives ROWS that FLOOD, as a set. */
    int waters(int much, int more) {
      int flooded = 0;
      comes[0] = much;
      for (int row = 0; row < rows; row++) {
        int holds = holdsOf(row, more);
        if (comes[row] > holds) {
          flooded |= 1 << row;
        }
        comes[row + 1] = Math.min(comes[row], holds);
      }
      return flooded;
    }

    /** A SEASON: ROWS that FLOOD. */
    int pass(int much) {
      int flooded = waters(much, 0);
      for (int row = 0; row < rows; row++) {
        if ((flooded >>> row & 1) == 1) {
          tension[row] = Math.max(-MOST_TENSION, tension[row] - 1);
        } else if (comes[row] == 0) {
          tension[row] = Math.min(MOST_TENSION, tension[row] + 1);
        }
      }
      sea = Math.min(MOST, sea + comes[rows]);
      season++;
      return flooded;
    }

    /** What draws take from a ROW behind a SEASON. */
    void wear() {
      if (rows > 0) {
        int row = draw() % rows;
        int less = draw() % 2;
        wide[row] = Math.max(1, wide[row] - less);
      }
    }

    int draw() {
      z = z * 1103515245 + 12345;
      return z >>> 8;
    }
  }

  /** The TEXT of a USE: what reads() made of it, each sign behind what it works on. */
  private static final class Text {
    boolean known = false;
    private final int[] code = new int[MOST_BYTES];
    private int size = 0;
    private final int[] stack = new int[MOST_BYTES];
    private int top = 0;

    void take(int[] other, int n) {
      size = held(n, 0, Math.min(MOST_BYTES, other.length));
      System.arraycopy(other, 0, code, 0, size);
      known = true;
    }

    void copy(Text other) {
      take(other.code, other.size);
      known = other.known;
    }

    /** What it gives with its NAMES as a, b, c. */
    int workedOut(int a, int b, int c) {
      top = 0;
      for (int i = 0; i < size; i++) {
        int item = code[i];
        if (item >= 0) {
          push(item);
        } else if (item >= -3) {
          push(item == -1 ? a : item == -2 ? b : c);
        } else if (item == -'!') {
          push(pop() == 0 ? 1 : 0);
        } else {
          int right = pop();
          int left = pop();
          push(joined(-item, left, right));
        }
      }
      return pop();
    }

    private void push(int v) {
      if (top < stack.length) {
        stack[top] = v;
        top++;
      }
    }

    private int pop() {
      if (top <= 0) {
        return 0;
      }
      top--;
      return stack[top];
    }

    private static int joined(int sign, int left, int right) {
      switch (sign) {
        case '|': return left != 0 || right != 0 ? 1 : 0;
        case '&': return left != 0 && right != 0 ? 1 : 0;
        case '<': return left < right ? 1 : 0;
        case '=': return left == right ? 1 : 0;
        case '>': return left > right ? 1 : 0;
        case '+': return left + right;
        case '-': return left - right;
        case '*': return left * right;
        case '/': return right == 0 ? 0 : left / right;
        case '%': return right == 0 ? 0 : left % right;
        default: return 0;
      }
    }
  }

  /** Reads TEXTS from THE TAPE. */
  private static final class Reader {
    private static final int MOST_OPEN = 5;
    private static final int MOST_DIGITS = 4;
    private static final int COMPARES = 2;
    private static final int DEEPEST = 4;

    /** Three NAMES for each USE, in order. */
    private static final char[] NAMES = {'b', 'w', 't', 'w', 't', 'k'};

    /**
     * What was read: numbers as they are, NAMES as -1, -2, -3, signs as less than 0 as they are; each sign
     * behind what it works on.
     */
    final int[] code = new int[MOST_BYTES];
    int size = 0;

    /** The place to be read next: where reading ended, the FAULT. */
    int at = 0;

    private byte[] tape = null;
    private int bytes = 0;
    private int use = 0;

    boolean reads(byte[] from, int n, int forUse) {
      tape = from;
      bytes = held(n, 0, from.length);
      use = forUse;
      size = 0;
      at = 0;
      return part(0, 0) && at == bytes;
    }

    /** The byte to be read next; -1, which no TEXT has, behind the last one. */
    private int next() {
      return tape != null && at < bytes && at < tape.length ? tape[at] : -1;
    }

    private void keep(int item) {
      if (size < code.length) {
        code[size] = item;
        size++;
      }
    }

    /** Levels 0 to 4 are T, A, B, S, P of the document. */
    private boolean part(int level, int open) {
      if (!between(level, open)) {
        return false;
      }
      int most = level == COMPARES ? 1 : MOST_BYTES;
      for (int i = 0; i < most && levelOf(next()) == level; i++) {
        int sign = next();
        at++;
        if (!between(level, open)) {
          return false;
        }
        keep(-sign);
      }
      return true;
    }

    /** What stands between the signs of a level: one of the next level; of the last one Q. */
    private boolean between(int level, int open) {
      return level < DEEPEST ? part(level + 1, open) : piece(open);
    }

    private static int levelOf(int sign) {
      switch (sign) {
        case '|': return 0;
        case '&': return 1;
        case '<':
        case '=':
        case '>': return COMPARES;
        case '+':
        case '-': return 3;
        case '*':
        case '/':
        case '%': return DEEPEST;
        default: return -1;
      }
    }

    /** Q of the document. */
    private boolean piece(int open) {
      int sign = next();
      if (isDigit(sign)) {
        number();
        return true;
      }
      if (sign == '!' || sign == '(') {
        return open < MOST_OPEN && opened(sign, open + 1);
      }
      int name = nameOf(sign);
      if (name < 0) {
        return false;
      }
      at++;
      keep(-1 - name);
      return true;
    }

    private boolean opened(int sign, int open) {
      at++;
      if (sign == '!') {
        boolean right = piece(open);
        keep(-'!');
        return right;
      }
      if (!part(0, open) || next() != ')') {
        return false;
      }
      at++;
      return true;
    }

    private void number() {
      int v = 0;
      for (int i = 0; i < MOST_DIGITS && isDigit(next()); i++) {
        v = 10 * v + next() - '0';
        at++;
      }
      keep(v);
    }

    private static boolean isDigit(int sign) {
      return sign >= '0' && sign <= '9';
    }

    private int nameOf(int sign) {
      for (int i = 0; i < 3; i++) {
        int place = 3 * use + i;
        if (place >= 0 && place < NAMES.length && NAMES[place] == sign) {
          return i;
        }
      }
      return -1;
    }
  }

  /** THE COURSE: the places where it is behind 0, 1, .. ROWS. */
  private static final class Course {
    static final int UP = 0;
    static final int RIGHT = 1;
    static final int DOWN = 2;
    static final int LEFT = 3;

    final int[] across = new int[MOST_ROWS + 1];
    final int[] down = new int[MOST_ROWS + 1];
    int rows = 0;

    /** The way that it goes at its end. */
    int goes = 0;

    static int turned(int way, int bends) {
      return Math.floorMod(way + bends, 4);
    }

    static int acrossMore(int way) {
      return way == RIGHT ? 1 : way == LEFT ? -1 : 0;
    }

    static int downMore(int way) {
      return way == DOWN ? 1 : way == UP ? -1 : 0;
    }

    void follow(River river) {
      goes = river.way;
      rows = river.rows;
      across[0] = 0;
      down[0] = 0;
      for (int row = 0; row < rows; row++) {
        goes = turned(goes, Kinds.bends(river.kind[row], river.m[row]));
        across[row + 1] = across[row] + acrossMore(goes);
        down[row + 1] = down[row] + downMore(goes);
      }
    }

    int crossings() {
      int many = 0;
      for (int place = 1; place <= rows; place++) {
        if (wasAhead(place)) {
          many++;
        }
      }
      return many;
    }

    private boolean wasAhead(int place) {
      for (int ahead = 0; ahead < place; ahead++) {
        if (across[ahead] == across[place] && down[ahead] == down[place]) {
          return true;
        }
      }
      return false;
    }
  }

  /** REACH: a row of stitches is a number that has, by two bits each, their places in STITCHES, the first highest. */
  private static final class Reach {
    static final int MOST_STITCHES = 5;

    /** By 10 times the KIND, and m; in the document's order. */
    private static final int[] STITCHES = {0, 10, 12, 60};

    private final int[] yarns = new int[STITCHES.length];
    int many = 0;
    int yarn = 0;
    private int found = -1;

    /** The stitch at a place (from 0); -1: there is none. */
    int stitch(int place) {
      return place >= 0 && place < many ? STITCHES[digit(found, many, place)] : -1;
    }

    boolean finds(River river, Course path, int x, int y) {
      int far = Math.abs(x - path.across[path.rows]) + Math.abs(y - path.down[path.rows]);
      if (far > Math.min(MOST_STITCHES, MOST_ROWS - path.rows)) {
        return false;
      }
      for (int i = 0; i < STITCHES.length; i++) {
        yarns[i] = river.yarnFor(STITCHES[i], 2, 0);
      }
      // Among the stitches there is one for each way, so that as many lead there as it is far.
      many = far;
      found = -1;
      for (int row = 0; row < 1 << (2 * many); row++) {
        if (leads(row, path, x, y)) {
          keepIfLess(row);
        }
      }
      return found >= 0;
    }

    private void keepIfLess(int row) {
      int takes = yarnOf(row);
      if (found < 0 || takes < yarn) {
        found = row;
        yarn = takes;
      }
    }

    private boolean leads(int row, Course path, int x, int y) {
      int across = path.across[path.rows];
      int down = path.down[path.rows];
      int goes = path.goes;
      for (int i = 0; i < many; i++) {
        int km = STITCHES[digit(row, many, i)];
        goes = Course.turned(goes, Kinds.bends(km / 10, km % 10));
        across += Course.acrossMore(goes);
        down += Course.downMore(goes);
      }
      return across == x && down == y;
    }

    private int yarnOf(int row) {
      int sum = 0;
      for (int i = 0; i < many; i++) {
        sum += yarns[digit(row, many, i)];
      }
      return sum;
    }

    private static int digit(int row, int n, int place) {
      return row >>> (2 * (n - 1 - place)) & 3;
    }
  }

  /** VOICES, BODIES, THE TRACE. */
  private static final class Voices {
    static final int RUNS = 0;
    static final int TURNS = 1;
    static final int POOLS = 2;
    static final int PARTS = 3;

    private static final int MOST_TRACE = 30;

    /** By KIND and VOICE; 0: that of the next KIND above that has one. */
    private static final int[] BODIES = {
      10, 11, 12, 13,
      20, 0, 0, 21,
      0, 30, 0, 0,
      0, 0, 40, 0,
      50, 0, 51, 0,
      0, 60, 0, 0,
      70, 71, 0, 0,
    };

    final int[] trace = new int[MOST_TRACE];
    int traced = 0;
    int answer = 0;

    private final int[] begun = new int[MOST_TRACE];
    private int began = 0;
    private boolean parted = false;
    private int kind = 0;
    private int k = 0;
    private int m = 0;

    /** False: it PARTED; THE TRACE stays then, as an ERROR changes nothing. */
    boolean utters(River river, int row, int voice, int x) {
      kind = river.kind[row];
      k = row;
      m = river.m[row];
      began = 0;
      parted = false;
      int v = spoken(kind, voice, x, 0);
      if (parted) {
        return false;
      }
      answer = v;
      traced = began;
      System.arraycopy(begun, 0, trace, 0, began);
      return true;
    }

    /** A VOICE by the BODY of a KIND, or of the next one above that has one. */
    private int spoken(int from, int voice, int x, int depth) {
      int number = bodyOf(from, voice);
      if (depth > MOST_TRACE) {
        return 0;
      }
      if (began < MOST_TRACE) {
        begun[began] = number;
        began++;
      }
      return workedOut(number, x, depth + 1);
    }

    private static int bodyOf(int from, int voice) {
      int at = from;
      for (int up = 0; up <= Kinds.HEEL; up++) {
        int place = 4 * at + voice;
        if (at < 0 || place < 0 || place >= BODIES.length) {
          return 0;
        }
        if (BODIES[place] != 0) {
          return BODIES[place];
        }
        at = Kinds.above(at);
      }
      return 0;
    }

    private int workedOut(int number, int x, int depth) {
      int above = Kinds.above(number / 10 - 1);
      switch (number) {
        case 10: return x + k;
        case 11: return spoken(kind, RUNS, x, depth) * 2;
        case 12: return spoken(kind, TURNS, x, depth) - m;
        case 13: return partedBy(x, m - k);
        case 20: return spoken(above, RUNS, x, depth) - 4;
        case 21: return spoken(above, PARTS, x, depth) + spoken(kind, TURNS, 1, depth);
        case 30: return 0 - spoken(above, TURNS, x, depth);
        case 40: return spoken(above, POOLS, x / 2, depth);
        case 50: return spoken(above, RUNS, x, depth) * 3;
        case 51: return spoken(above, POOLS, x, depth) ^ k;
        case 60: return spoken(above, TURNS, x + 1, depth);
        case 70: return 9;
        case 71: return spoken(above, TURNS, x, depth) + m;
        default: return 0;
      }
    }

    private int partedBy(int x, int by) {
      if (by == 0) {
        parted = true;
        return 0;
      }
      return x / by;
    }
  }

  /** A SHEET; it is missing as long as it has 0 bits. */
  private static final class Sheet {
    final int[] numbers = new int[MOST_NUMBERS];
    int bits = 0;
    int size = 0;

    void make(int ofBits, int n) {
      bits = ofBits;
      size = held(n, 0, MOST_NUMBERS);
      for (int i = 0; i < MOST_NUMBERS; i++) {
        numbers[i] = 0;
      }
    }

    void write(int i, int v) {
      if (i >= 0 && i < size) {
        numbers[i] = bits == 8 ? (byte) v : bits == 16 ? (short) v : v;
      }
    }

    /** Whether n numbers stand from number i on. */
    boolean has(int i, int n) {
      return i >= 0 && n >= 0 && n <= size && i <= size - n;
    }
  }
}
