/** For each promise of the document: ordinary inputs, the edges that it names, wrong inputs. */
public final class PromisesTest {
  private static final int LOW = -1000000000;
  private static final int BEYOND = LOW - 1;
  private static final int NONE = LOW - 2;
  private static final int STATE = LOW - 3;
  private static final int FULL = LOW - 4;
  private static final int KIND = LOW - 5;
  private static final int PARTED = LOW - 6;
  private static final int MIN = Integer.MIN_VALUE;
  private static final int MAX = Integer.MAX_VALUE;

  private static final Due DUE = new Due("promises");

  private PromisesTest() {}

  public static void main(String[] args) {
    promise1ANewObject();
    promise2Knit();
    promise2YarnOfEachKind();
    promise3RowIs();
    promise4Become();
    promise5As();
    promise6Tie();
    promise7Drop();
    promise8Tense();
    promise9Pull();
    promise10Wind();
    promise11Feed();
    promise12Text();
    promise12Fault();
    promise12Meaning();
    promise13Untell();
    promise14Law();
    promise15Season();
    promise15Ends();
    promise16Loose();
    promise17Seed();
    promise18Flow();
    promise19Course();
    promise20Crosses();
    promise21Reach();
    promise21ReachByYarn();
    promise22Ease();
    promise22EaseOfAll();
    promise23Odds();
    promise24Fits();
    promise25Voice();
    promise26Body();
    promise27Sheet();
    promise28Put();
    promise29Move();
    promise30Tensions();
    promise31Judge();
    promise32And33ImageAndRestore();
    promise34Tell();
    promise35Check();
    promise36Count();
    promise37Told();
    DUE.end();
  }

  private static void is(String call, long got, long want) {
    DUE.is(call, got, want);
  }

  /** Rows of 10 times the KIND and m, each 3 WIDE with TENSION 0, and THREAD enough. */
  private static KnitRiver of(int... kms) {
    KnitRiver x = new KnitRiver();
    x.wind(0, 9999);
    for (int km : kms) {
      x.knit(km, 3, 0);
    }
    return x;
  }

  /** PLAIN rows, each so WIDE with TENSION 0, and THREAD enough. */
  private static KnitRiver wide(int... wides) {
    KnitRiver x = new KnitRiver();
    x.wind(0, 9999);
    for (int wide : wides) {
      x.knit(0, wide, 0);
    }
    return x;
  }

  private static int feed(KnitRiver x, String s) {
    int is = x.count(5);
    for (int i = 0; i < s.length(); i++) {
      is = x.feed(s.charAt(i), 1);
    }
    return is;
  }

  private static int text(KnitRiver x, int use, String s) {
    feed(x, s);
    return x.text(use);
  }

  private static void sheet(KnitRiver x, int sheet, int bits, int... numbers) {
    x.sheet(sheet, bits, numbers.length);
    for (int i = 0; i < numbers.length; i++) {
      x.put(sheet, i, numbers[i]);
    }
  }

  private static void promise1ANewObject() {
    KnitRiver x = new KnitRiver();
    int[] counts = {0, 200, 0, 0, 0, 0, 0, 0, 1};
    for (int what = 0; what < counts.length; what++) {
      is("new: count(" + what + ")", x.count(what), counts[what]);
    }
    for (int k = 1; k <= 6; k++) {
      is("new: told(" + k + ")", x.told(k), 0);
    }
    is("new: untell(0)", x.untell(0), 0);
    is("new: untell(1)", x.untell(1), 0);
    is("new: restore()", x.restore(), NONE);
    is("new: body(0)", x.body(0), NONE);
    is("new: rowIs(0, 0)", x.rowIs(0, 0), BEYOND);
    for (int sheet = 0; sheet < 4; sheet++) {
      is("new: judge(" + sheet + ")", x.judge(sheet), NONE);
    }
    KnitRiver other = new KnitRiver();
    other.knit(0, 1, 0);
    is("another object's rows", x.count(0), 0);
  }

  private static void promise2Knit() {
    KnitRiver x = new KnitRiver();
    is("knit(5, 4, 2)", x.knit(5, 4, 2), 6);
    is("THREAD", x.count(1), 194);
    is("its m", x.rowIs(0, 1), 5);
    is("its WIDE", x.rowIs(0, 2), 4);
    is("its TENSION", x.rowIs(0, 3), 2);
    is("its TIED", x.rowIs(0, 4), 0);
    is("knit(69, 12, -9)", x.knit(69, 12, -9), 45);
    is("knit(0, 1, 9)", x.knit(0, 1, 9), 1);
    is("knit(-1, 1, 0)", x.knit(-1, 1, 0), BEYOND);
    is("knit(70, 1, 0)", x.knit(70, 1, 0), BEYOND);
    is("knit(0, 0, 0)", x.knit(0, 0, 0), BEYOND);
    is("knit(0, 13, 0)", x.knit(0, 13, 0), BEYOND);
    is("knit(0, 1, 10)", x.knit(0, 1, 10), BEYOND);
    is("knit(0, 1, -10)", x.knit(0, 1, -10), BEYOND);
    is("knit(MIN, MAX, MIN)", x.knit(MIN, MAX, MIN), BEYOND);
    is("rows", x.count(0), 3);
    x.wind(0, 5);
    is("knit: too little THREAD", x.knit(0, 3, 0), STATE);
    is("THREAD stays", x.count(1), 5);
    is("rows stay", x.count(0), 3);
    x.wind(0, 6);
    is("knit: just enough THREAD", x.knit(0, 3, 0), 6);
    is("no THREAD is left", x.count(1), 0);
    x.wind(0, 9999);
    for (int i = 4; i < 15; i++) {
      is("knit row " + i, x.knit(0, 1, 0), 2);
    }
    x.wind(0, 0);
    is("knit: FULL ahead of STATE", x.knit(0, 1, 0), FULL);
    is("knit: BEYOND ahead of FULL", x.knit(0, 13, 0), BEYOND);
    is("rows", x.count(0), 15);
  }

  private static void promise2YarnOfEachKind() {
    int[] yarns = {11, 12, 16, 5, 17, 8, 18};
    for (int kind = 0; kind < yarns.length; kind++) {
      is("YARN of KIND " + kind, new KnitRiver().knit(10 * kind + 5, 7, 3), yarns[kind]);
    }
    int[] least = {1, 1, 1, 1, 3, 1, 1};
    for (int kind = 0; kind < least.length; kind++) {
      is("least YARN of KIND " + kind, new KnitRiver().knit(10 * kind + 9, 1, 9), least[kind]);
    }
    KnitRiver x = of(50);
    int[] bySeason = {4, 4, 4, 9, 4, 4, 4, 9, 4};
    for (int season = 0; season < bySeason.length; season++) {
      is("YARN of FELT in SEASON " + season, x.rowIs(0, 5), bySeason[season]);
      x.season(1);
    }
    x = of(20, 30, 50);
    x.tense(0, 9);
    x.tense(1, 9);
    x.tense(2, 9);
    text(x, 0, "0-b");
    is("RIB says -4 (3 * -3 / 2, cut)", x.rowIs(0, 5), 4);
    is("LACE says -1 (-3 / 2, cut)", x.rowIs(1, 5), 1);
    is("FELT says -2 (-4 / 2)", x.rowIs(2, 5), 2);
  }

  private static void promise3RowIs() {
    KnitRiver x = new KnitRiver();
    x.knit(47, 6, -4);
    x.tie(0, 1);
    int[] is = {4, 7, 6, -4, 1, 24, 84, 0};
    for (int what = 0; what < is.length; what++) {
      is("rowIs(0, " + what + ")", x.rowIs(0, what), is[what]);
    }
    is("rowIs(0, 8)", x.rowIs(0, 8), BEYOND);
    is("rowIs(0, -1)", x.rowIs(0, -1), BEYOND);
    is("rowIs(1, 0)", x.rowIs(1, 0), BEYOND);
    is("rowIs(-1, 0)", x.rowIs(-1, 0), BEYOND);
    is("rowIs(MIN, MAX)", x.rowIs(MIN, MAX), BEYOND);
    is("told: once each", x.told(1), 5);
    int[] purl = {-1, 0, 1, -1, 0, 1, -1, 0, 1, -1};
    for (int m = 0; m <= 9; m++) {
      int[] bends = {0, purl[m], 0, 0, 2 * purl[m], 0, 2};
      for (int kind = 0; kind <= 6; kind++) {
        is("BENDS of " + kind + ", m " + m, of(10 * kind + m).rowIs(0, 7), bends[kind]);
      }
    }
    is("HOLDS, TENSION 9", holdsBy(12, 9), 12);
    is("HOLDS, TENSION -9", holdsBy(12, -9), 228);
  }

  private static int holdsBy(int wide, int tension) {
    KnitRiver x = new KnitRiver();
    x.knit(0, wide, tension);
    return x.rowIs(0, 6);
  }

  private static void promise4Become() {
    KnitRiver x = of(0, 34);
    is("become(1, 62)", x.become(1, 62), 3);
    is("KIND", x.rowIs(1, 0), 6);
    is("m", x.rowIs(1, 1), 2);
    is("WIDE stays", x.rowIs(1, 2), 3);
    is("THREAD stays", x.count(1), 9990);
    is("become(1, 69)", x.become(1, 69), 6);
    is("become(1, 70)", x.become(1, 70), BEYOND);
    is("become(1, -1)", x.become(1, -1), BEYOND);
    is("become(2, 0)", x.become(2, 0), BEYOND);
    is("become(-1, 0)", x.become(-1, 0), BEYOND);
    is("KIND stays", x.rowIs(1, 0), 6);
    is("m stays", x.rowIs(1, 1), 9);
  }

  private static void promise5As() {
    boolean[][] under = {
      {true, false, false, false, false, false, false},
      {true, true, false, false, false, false, false},
      {true, false, true, false, false, false, false},
      {true, false, false, true, false, false, false},
      {true, true, false, false, true, false, false},
      {true, false, true, false, false, true, false},
      {true, false, false, false, false, false, true},
    };
    for (int kind = 0; kind <= 6; kind++) {
      KnitRiver x = of(10 * kind + 7);
      for (int other = 0; other <= 6; other++) {
        is("KIND " + kind + " as " + other, x.as(0, other), under[kind][other] ? 7 : KIND);
      }
    }
    KnitRiver x = of(0);
    is("as(0, 7)", x.as(0, 7), BEYOND);
    is("as(0, -1)", x.as(0, -1), BEYOND);
    is("as(1, 0)", x.as(1, 0), BEYOND);
    is("as(-1, 6)", x.as(-1, 6), BEYOND);
  }

  private static void promise6Tie() {
    KnitRiver x = of(0, 0);
    is("tie(1, 1)", x.tie(1, 1), 0);
    is("tie(1, 1) again", x.tie(1, 1), 1);
    is("TIED", x.rowIs(1, 4), 1);
    is("the other", x.rowIs(0, 4), 0);
    is("tie(1, 0)", x.tie(1, 0), 1);
    is("TIED no more", x.rowIs(1, 4), 0);
    is("tie(1, 2)", x.tie(1, 2), BEYOND);
    is("tie(1, -1)", x.tie(1, -1), BEYOND);
    is("tie(2, 1)", x.tie(2, 1), BEYOND);
    is("tie(-1, 1)", x.tie(-1, 1), BEYOND);
  }

  private static void promise7Drop() {
    KnitRiver x = wide(3);
    is("drop", x.drop(0), 2);
    is("drop", x.drop(0), 1);
    is("THREAD stays", x.count(1), 9993);
    is("drop at 1 WIDE", x.drop(0), STATE);
    is("WIDE stays", x.rowIs(0, 2), 1);
    is("drop(1)", x.drop(1), BEYOND);
    is("drop(-1)", x.drop(-1), BEYOND);
  }

  private static void promise8Tense() {
    KnitRiver x = of(0);
    is("tense(0, -9)", x.tense(0, -9), 0);
    is("tense(0, 9)", x.tense(0, 9), -9);
    is("tense(0, 10)", x.tense(0, 10), BEYOND);
    is("tense(0, -10)", x.tense(0, -10), BEYOND);
    is("tense(1, 0)", x.tense(1, 0), BEYOND);
    is("tense(-1, 0)", x.tense(-1, 0), BEYOND);
    is("TENSION stays", x.rowIs(0, 3), 9);
  }

  private static void promise9Pull() {
    KnitRiver x = new KnitRiver();
    for (int i = 0; i < 5; i++) {
      x.knit(0, 1 + i, 0);
    }
    is("THREAD", x.count(1), 170);
    x.tie(1, 1);
    is("pull(3)", x.pull(3), 2);
    is("THREAD", x.count(1), 188);
    is("rows", x.count(0), 3);
    is("pull(3) again", x.pull(3), BEYOND);
    is("pull(0), up to the TIED one", x.pull(0), 1);
    is("the TIED one stays", x.count(0), 2);
    is("pull(1) of a TIED one", x.pull(1), 0);
    x.tie(1, 0);
    x.tie(0, 1);
    x.drop(1);
    is("pull(0)", x.pull(0), 1);
    is("THREAD as it takes then", x.count(1), 196);
    x.tie(0, 0);
    x.wind(0, 9998);
    is("pull(0)", x.pull(0), 1);
    is("THREAD is 9999 at most", x.count(1), 9999);
    is("pull(0) of none", x.pull(0), BEYOND);
    is("pull(-1)", x.pull(-1), BEYOND);
    x = of(50);
    x.season(0);
    x.season(0);
    x.season(0);
    x.tense(0, 0);
    x.wind(0, 0);
    is("pull(0)", x.pull(0), 1);
    is("YARN of FELT in that SEASON", x.count(1), 9);
  }

  private static void promise10Wind() {
    KnitRiver x = new KnitRiver();
    is("wind(0, 9999)", x.wind(0, 9999), 200);
    is("wind(0, 0)", x.wind(0, 0), 9999);
    is("wind(1, 3)", x.wind(1, 3), 0);
    is("wind(1, 0)", x.wind(1, 0), 3);
    is("wind(0, 10000)", x.wind(0, 10000), BEYOND);
    is("wind(0, -1)", x.wind(0, -1), BEYOND);
    is("wind(1, 4)", x.wind(1, 4), BEYOND);
    is("wind(1, -1)", x.wind(1, -1), BEYOND);
    is("wind(2, 0)", x.wind(2, 0), BEYOND);
    is("wind(-1, 0)", x.wind(-1, 0), BEYOND);
    is("THREAD", x.count(1), 0);
    is("WAY", x.count(2), 0);
  }

  private static void promise11Feed() {
    KnitRiver x = new KnitRiver();
    is("feed(.., 0)", x.feed(0L, 0), BEYOND);
    is("feed(.., 9)", x.feed(0L, 9), BEYOND);
    is("feed(.., MIN)", x.feed(0L, MIN), BEYOND);
    is("feed(.., 8)", x.feed(0x3132333435363738L, 8), 8);
    is("text: the lowest byte first", x.text(0), -10 - 4);
    is("feed(\"1+2*3+1-\")", x.feed(0x2d312b332a322b31L, 8), 8);
    is("feed(.., 1): only the lowest", x.feed(0x7777777777777735L, 1), 9);
    is("text", x.text(0), 1);
    is("law", x.law(0, 0, 0, 0), 3);
    for (int i = 1; i <= 7; i++) {
      is("feed", x.feed(-1L, 8), 8 * i);
    }
    is("feed: FULL", x.feed(0L, 5), FULL);
    is("feed: BEYOND ahead of FULL", x.feed(0L, 9), BEYOND);
    is("feed: it stays", x.count(5), 56);
    is("feed to 60", x.feed(0L, 4), 60);
    is("feed: FULL", x.feed(0L, 1), FULL);
    is("the first wrong byte", x.text(1), -10);
    is("THE TAPE is empty", x.count(5), 0);
  }

  private static void promise12Text() {
    KnitRiver x = of(0);
    is("text(0)", text(x, 0, "b+w"), 1);
    is("THE TAPE is empty", x.count(5), 0);
    is("YARN", x.rowIs(0, 5), 9);
    is("in place of one ahead", text(x, 0, "b*2"), 1);
    is("YARN", x.rowIs(0, 5), 12);
    is("a FAULT", text(x, 0, "b++"), -12);
    is("THE TAPE is empty, too", x.count(5), 0);
    is("the one ahead stays", x.rowIs(0, 5), 12);
    is("no ERROR", x.told(1) + x.told(2) + x.told(3) + x.told(4) + x.told(5) + x.told(6), 0);
    feed(x, "w*7");
    is("text(2)", x.text(2), BEYOND);
    is("text(-1)", x.text(-1), BEYOND);
    is("THE TAPE stays", x.count(5), 3);
    is("text(1)", x.text(1), 1);
    is("HOLDS", x.rowIs(0, 6), 21);
    is("YARN stays", x.rowIs(0, 5), 12);
    text(x, 0, "0-1");
    text(x, 1, "0-1");
    is("YARN is 1 at least", x.rowIs(0, 5), 1);
    is("HOLDS are 0 at least", x.rowIs(0, 6), 0);
    text(x, 0, "9999");
    text(x, 1, "9999");
    is("YARN is 99 at most", x.rowIs(0, 5), 99);
    is("HOLDS are 999 at most", x.rowIs(0, 6), 999);
    is("knit by the TEXT", x.knit(0, 1, 0), 99);
    text(x, 1, "k*100+t*10+w");
    x.become(0, 63);
    x.tense(0, 5);
    is("HOLDS by w, t, k", x.rowIs(0, 6), 653);
    text(x, 0, "b*10-w-t");
    is("YARN by b, w, t", x.rowIs(0, 5), 32);
  }

  private static void fault(int use, String s, int place) {
    is("TEXT " + use + " \"" + s + "\"", text(new KnitRiver(), use, s), place < 0 ? 1 : -10 - place);
  }

  private static void promise12Fault() {
    fault(0, "", 0);
    fault(0, "b", -1);
    fault(0, "k", 0);
    fault(1, "k", -1);
    fault(1, "b", 0);
    fault(0, "bw", 1);
    fault(0, " b", 0);
    fault(0, "b ", 1);
    fault(0, "9999", -1);
    fault(0, "0000", -1);
    fault(0, "12345", 4);
    fault(0, "1b", 1);
    fault(0, "-1", 0);
    fault(0, "1-", 2);
    fault(0, "1<2", -1);
    fault(0, "1<2<3", 3);
    fault(0, "1=2>3", 3);
    fault(0, "1<2&3>4|5=6", -1);
    fault(0, "(1<2)<3", -1);
    fault(0, "1<(2<3<4)", 6);
    fault(0, "1|2|3&4&5", -1);
    fault(0, "()", 1);
    fault(0, "(1", 2);
    fault(0, "(1))", 3);
    fault(0, ")", 0);
    fault(0, "1)", 1);
    fault(0, "(", 1);
    fault(0, "!", 1);
    fault(0, "1!", 1);
    fault(0, "!!!!!1", -1);
    fault(0, "!!!!!!1", 5);
    fault(0, "(((((1)))))", -1);
    fault(0, "((((((1))))))", 5);
    fault(0, "!(!(!1))", -1);
    fault(0, "!(!(!(1)))", 5);
    fault(0, "!!!!!1+!!!!!1", -1);
    fault(0, "(((((1)))))*(((((1)))))", -1);
    fault(0, "((((!1+!2))))", -1);
    fault(0, "(((((1+!2)))))", 7);
    fault(0, "1+*2", 2);
    fault(0, "1&&2", 2);
    fault(0, "1==2", 2);
    fault(0, "1^2", 1);
    fault(0, "B", 0);
    fault(0, "1\u00ff", 1);
    fault(0, "\u00ff", 0);
    fault(0, "1+\u0000", 2);
    String sixty = "1+1+1+1+1+1+1+1+1+1+1+1+1+1+1+1+1+1+1+1+1+1+1+1+1+1+1+1+1+10";
    fault(0, sixty, -1);
    fault(0, sixty.substring(0, 58) + "((", 60);
    fault(0, sixty.substring(0, 58) + "+(", 58);
  }

  private static void means(String s, int want) {
    KnitRiver x = new KnitRiver();
    is("TEXT \"" + s + "\"", text(x, 0, "1+" + s), 1);
    is("value of 1+" + s, x.law(0, 2, 3, -4), 1 + want);
  }

  private static void promise12Meaning() {
    means("2+3*4", 14);
    means("20-3-4", 13);
    means("60/5/2", 6);
    means("7%4*5", 15);
    means("(20-(3-4))", 21);
    means("(7/0)", 0);
    means("(7%0)", 0);
    means("(0-7)/2+9", 6);
    means("(0-7)%4+9", 6);
    means("(2<3)", 1);
    means("(3<2)", 0);
    means("(3<3)", 0);
    means("(3=3)", 1);
    means("(3=2)", 0);
    means("(3>2)", 1);
    means("(2>3)", 0);
    means("(3>3)", 0);
    means("(5|0)", 1);
    means("(0|0)", 0);
    means("(5&2)", 1);
    means("(1&1)", 1);
    means("(0&5)", 0);
    means("(0|5)", 1);
    means("(5&0)", 0);
    means("(1|0&0)", 1);
    means("!5", 0);
    means("!0*7", 7);
    means("!!5", 1);
    means("(1+1=2)", 1);
    means("b*10+w", 23);
    means("t+9", 5);
    KnitRiver x = new KnitRiver();
    text(x, 0, "9999*9999*50>0");
    is("ints that wrap: 4999000050 is 704032754", x.law(0, 0, 0, 0), 1);
    text(x, 0, "9999*9999*30>0");
    is("ints that wrap: 2999400030 is below 0", x.law(0, 0, 0, 0), 1);
    String many = "0" + "*9".repeat(27);
    is("a long one", text(x, 0, many + "+b*2"), 1);
    is("its law", x.law(0, 3, 0, 0), 6);
    is("another long one", text(x, 0, many + "+b*3"), 1);
    is("its law", x.law(0, 3, 0, 0), 9);
    is("so its law, held", lawOf("9999*9999*30<0"), 1);
    is("so its law, not held", lawOf("(9999*9999*30<0)*7"), 7);
    text(x, 0, "b/t=b");
    is("the least int by -1 wraps", x.law(0, MIN, 0, -1), 1);
    text(x, 0, "(b%t=0)*5");
    is("the rest of the least int by -1", x.law(0, MIN, 0, -1), 5);
  }

  private static int lawOf(String s) {
    KnitRiver x = new KnitRiver();
    text(x, 0, s);
    return x.law(0, 0, 0, 0);
  }

  private static void promise13Untell() {
    KnitRiver x = of(0);
    text(x, 0, "50");
    text(x, 1, "60");
    is("untell(0)", x.untell(0), 1);
    is("YARN without a TEXT", x.rowIs(0, 5), 6);
    is("HOLDS by the TEXT", x.rowIs(0, 6), 60);
    is("untell(0) again", x.untell(0), 0);
    is("untell(1)", x.untell(1), 1);
    is("HOLDS without a TEXT", x.rowIs(0, 6), 30);
    is("untell(2)", x.untell(2), BEYOND);
    is("untell(-1)", x.untell(-1), BEYOND);
    text(x, 0, "");
    is("a FAULT is no TEXT", x.untell(0), 0);
  }

  private static void promise14Law() {
    KnitRiver x = new KnitRiver();
    is("law(0, 42, ..) without a TEXT", x.law(0, 42, 7, 7), 42);
    is("law(0, 0, ..) is held", x.law(0, 0, 7, 7), 1);
    is("law(0, MAX, ..) is held", x.law(0, MAX, 7, 7), 99);
    is("law(1, 7, 4, ..) without a TEXT", x.law(1, 7, 4, 99), 42);
    is("law(1, 900, 0, 0): not said to be held", x.law(1, 900, 0, 0), 9000);
    is("law(1, -9, 0, 0): not said to be held", x.law(1, -9, 0, 0), -90);
    text(x, 0, "b+w*2+t*3");
    is("law(0, 1, 2, 3)", x.law(0, 1, 2, 3), 14);
    text(x, 1, "w+t*2+k*3");
    is("law(1, 1, 2, 3)", x.law(1, 1, 2, 3), 14);
    is("law(1, -100, ..) is held", x.law(1, -100, 0, 0), 0);
    is("law(1, MAX, ..) is held", x.law(1, MAX, 0, 0), 999);
    is("law(0, MIN, ..) is held", x.law(0, MIN, 0, 0), 1);
    is("law(2, ..)", x.law(2, 0, 0, 0), BEYOND);
    is("law(-1, ..)", x.law(-1, 0, 0, 0), BEYOND);
  }

  private static void promise15Season() {
    KnitRiver x = wide(4, 3, 5, 2);
    is("season(35)", x.season(35), 2 + 8);
    int[] tensions = {0, -1, 0, -1};
    for (int row = 0; row < 4; row++) {
      is("TENSION of " + row, x.rowIs(row, 3), tensions[row]);
    }
    is("THE SEA", x.count(4), 20);
    is("SEASON", x.count(3), 1);
    is("season(0)", x.season(0), 0);
    int[] slack = {1, 0, 1, 0};
    for (int row = 0; row < 4; row++) {
      is("TENSION of " + row, x.rowIs(row, 3), slack[row]);
    }
    is("THE SEA", x.count(4), 20);
    is("season(-1)", x.season(-1), BEYOND);
    is("season(1000)", x.season(1000), BEYOND);
    is("season(999)", x.season(999), 1 + 2 + 8);
    is("SEASON", x.count(3), 3);
    x = wide(4, 3);
    is("a ROW that comes just full doesn't FLOOD", x.season(30), 0);
    x = wide(4, 3);
    text(x, 1, "k");
    x.become(1, 60);
    is("HOLDS 0: then 0 comes", x.season(1), 1);
    is("TENSION less", x.rowIs(0, 3), -1);
    is("TENSION more", x.rowIs(1, 3), 1);
    is("nothing comes to THE SEA", x.count(4), 0);
    is("WATER of a plain without ROWS", new KnitRiver().season(7), 0);
    x = wide(1, 1, 1, 1, 1, 1, 1, 1, 1, 1, 1, 1, 1, 1, 1);
    x.tense(14, 9);
    is("season(10) of 15 ROWS", x.season(10), 1 << 14);
    is("THE SEA", x.count(4), 1);
    is("TENSION of ROW 14", x.rowIs(14, 3), 8);
    is("flow(5, 15, 0)", x.flow(5, 15, 0), 2);
    is("flow(999, 15, 1)", x.flow(999, 15, 1), 1 + (1 << 14));
    is("ease(100, 1)", x.ease(100, 1), 1);
    is("odds(0)", x.odds(0), 3);
    is("course(15, 1)", x.course(15, 1), -15);
    is("crosses()", x.crosses(), 0);
    is("reach: no room", x.reach(0, -9, -2), NONE);
    is("season(0) of 15 ROWS", x.season(0), 0);
    is("TENSION of ROW 14", x.rowIs(14, 3), 9);
  }

  private static void promise15Ends() {
    KnitRiver x = wide(1, 1);
    x.tense(0, 9);
    x.tense(1, -9);
    x.season(0);
    is("TENSION is 9 at most", x.rowIs(0, 3), 9);
    x.tense(0, -9);
    x.tense(1, -9);
    x.season(999);
    is("TENSION is -9 at least", x.rowIs(0, 3), -9);
    x = new KnitRiver();
    for (int i = 0; i < 11; i++) {
      x.season(999);
    }
    is("THE SEA is 9999 at most", x.count(4), 9999);
    for (int i = 0; i < 332; i++) {
      x.loose(30);
    }
    is("SEASON", x.count(3), 9971);
    is("loose(29): above 9999", x.loose(29), STATE);
    is("loose(31): BEYOND ahead of STATE", x.loose(31), BEYOND);
    is("SEASON stays", x.count(3), 9971);
    is("loose(28)", x.loose(28), 0);
    is("SEASON", x.count(3), 9999);
    is("season at 9999", x.season(0), STATE);
    is("season: BEYOND ahead of STATE", x.season(1000), BEYOND);
    is("loose(1) at 9999", x.loose(1), STATE);
  }

  private static int drawn(int z) {
    return z * 1103515245 + 12345;
  }

  private static void promise16Loose() {
    KnitRiver x = new KnitRiver();
    is("loose(1) without ROWS", x.loose(1), 0);
    is("one draw", x.count(8), drawn(1));
    is("WATER", x.count(4), (drawn(1) >>> 8) % 120);
    is("loose(0)", x.loose(0), BEYOND);
    is("loose(31)", x.loose(31), BEYOND);
    is("loose(-1)", x.loose(-1), BEYOND);
    is("z stays", x.count(8), drawn(1));
    for (int seed = -40; seed < 40; seed++) {
      x = wide(4, 1, 2);
      x.seed(seed);
      int z = drawn(seed);
      int water = (z >>> 8) % 120;
      int flooded = (water > 40 ? 1 : 0) + (water > 10 ? 2 : 0);
      is("loose(1) by " + seed, x.loose(1), flooded);
      z = drawn(z);
      int row = (z >>> 8) % 3;
      z = drawn(z);
      int less = (z >>> 8) % 2;
      int[] wides = {4, 1, 2};
      wides[row] = Math.max(1, wides[row] - less);
      for (int i = 0; i < 3; i++) {
        is("WIDE of " + i + " by " + seed, x.rowIs(i, 2), wides[i]);
      }
      is("three draws", x.count(8), z);
      is("SEASON", x.count(3), 1);
    }
    x = wide(12);
    x.loose(30);
    is("draws for one ROW", x.count(8), by90Draws());
    is("one ROW is less WIDE", x.rowIs(0, 2) < 12 ? 1 : 0, 1);
    x = wide(4, 1, 2);
    KnitRiver y = wide(4, 1, 2);
    int any = 0;
    for (int i = 0; i < 30; i++) {
      any |= x.loose(1);
    }
    is("loose(30)", y.loose(30), any);
    is("SEASON", y.count(3), 30);
    is("z", y.count(8), x.count(8));
  }

  /** z by 90 draws. */
  private static int by90Draws() {
    int z = 1;
    for (int i = 0; i < 90; i++) {
      z = drawn(z);
    }
    return z;
  }

  private static void promise17Seed() {
    KnitRiver x = new KnitRiver();
    is("seed(MIN)", x.seed(MIN), 1);
    is("seed(BEYOND)", x.seed(BEYOND), MIN);
    is("seed(0)", x.seed(0), BEYOND);
    is("no ERROR", x.told(1), 0);
    is("z", x.count(8), 0);
  }

  private static void promise18Flow() {
    KnitRiver x = wide(4, 3, 5, 2);
    int[] comes = {35, 35, 30, 30, 20};
    for (int row = 0; row <= 4; row++) {
      is("flow(35, " + row + ", 0)", x.flow(35, row, 0), comes[row]);
      is("flow(35, " + row + ", 1)", x.flow(35, row, 1), 10);
    }
    is("flow(0, 4, 0)", x.flow(0, 4, 0), 0);
    is("flow(999, 0, 0)", x.flow(999, 0, 0), 999);
    is("flow(999, 0, 1)", x.flow(999, 0, 1), 11);
    is("flow(1000, 0, 0)", x.flow(1000, 0, 0), BEYOND);
    is("flow(-1, 0, 0)", x.flow(-1, 0, 0), BEYOND);
    is("flow(0, 5, 0)", x.flow(0, 5, 0), BEYOND);
    is("flow(0, 5, 1)", x.flow(0, 5, 1), BEYOND);
    is("flow(0, -1, 0)", x.flow(0, -1, 0), BEYOND);
    is("flow(0, 0, 2)", x.flow(0, 0, 2), BEYOND);
    is("flow(0, 0, -1)", x.flow(0, 0, -1), BEYOND);
    is("only thought: SEASON", x.count(3), 0);
    is("only thought: TENSION", x.rowIs(3, 3), 0);
    is("only thought: THE SEA", x.count(4), 0);
    is("without ROWS", new KnitRiver().flow(7, 0, 0), 7);
    is("without ROWS, behind THE SEA", new KnitRiver().flow(7, 1, 0), BEYOND);
  }

  private static void promise19Course() {
    // Up; PURL 2 to the right; CABLE 0 turns by -2, to the left; HEEL turns, to the right; PURL 0, up.
    KnitRiver x = of(0, 12, 40, 60, 10);
    int[] across = {0, 0, 1, 0, 1, 1};
    int[] down = {0, -1, -1, -1, -1, -2};
    for (int i = 0; i <= 5; i++) {
      is("course(" + i + ", 0)", x.course(i, 0), across[i]);
      is("course(" + i + ", 1)", x.course(i, 1), down[i]);
    }
    is("course(6, 0)", x.course(6, 0), BEYOND);
    is("course(-1, 0)", x.course(-1, 0), BEYOND);
    is("course(0, 2)", x.course(0, 2), BEYOND);
    is("course(0, -1)", x.course(0, -1), BEYOND);
    int[][] ways = {{0, -1}, {1, 0}, {0, 1}, {-1, 0}};
    for (int way = 0; way < 4; way++) {
      x = of(0);
      x.wind(1, way);
      is("WAY " + way + " across", x.course(1, 0), ways[way][0]);
      is("WAY " + way + " down", x.course(1, 1), ways[way][1]);
    }
    x = of(12);
    x.wind(1, 3);
    is("left and 1 more is up", x.course(1, 1), -1);
    is("WAY stays", x.count(2), 3);
  }

  private static void promise20Crosses() {
    is("no ROWS", new KnitRiver().crosses(), 0);
    is("straight on", of(0, 0, 0).crosses(), 0);
    is("back to the spring", of(0, 60).crosses(), 1);
    is("to and fro", of(0, 60, 60, 60).crosses(), 3);
    is("round", of(12, 12, 12, 12).crosses(), 1);
    is("round and round", of(12, 12, 12, 12, 12, 12).crosses(), 3);
  }

  private static void reach(KnitRiver x, int across, int down, int... want) {
    for (int i = 0; i < want.length; i++) {
      is("reach(" + across + ", " + down + ", " + (i - 2) + ")", x.reach(across, down, i - 2), want[i]);
    }
  }

  private static void promise21Reach() {
    KnitRiver x = new KnitRiver();
    reach(x, 0, 0, 0, 0, -1, -1, -1, -1, -1);
    reach(x, 0, -1, 1, 4, 0, -1, -1, -1, -1);
    reach(x, 0, 1, 1, 6, 60, -1, -1, -1, -1);
    reach(x, -1, 0, 1, 5, 10, -1, -1, -1, -1);
    reach(x, 0, -5, 5, 20, 0, 0, 0, 0, 0);
    reach(x, 1, -2, 3, 13, 0, 0, 12, -1, -1);
    reach(x, 0, -6, NONE, NONE, NONE);
    reach(x, 9, -9, NONE);
    reach(x, 10, 0, BEYOND);
    reach(x, -10, 0, BEYOND);
    reach(x, 0, 10, BEYOND);
    reach(x, 0, -10, BEYOND);
    is("reach(0, 0, 5)", x.reach(0, 0, 5), BEYOND);
    is("reach(0, 0, -3)", x.reach(0, 0, -3), BEYOND);
    is("reach(MIN, MAX, 0)", x.reach(MIN, MAX, 0), BEYOND);
    is("only thought: rows", x.count(0), 0);
    x.wind(0, 0);
    reach(x, 0, -1, 1, 4, 0);
    is("only thought: THREAD", x.count(1), 0);
    x = of(12, 0);
    reach(x, 2, 0, 0, 0, -1);
    reach(x, 3, 0, 1, 4, 0);
    reach(x, 0, 0, 2, 10, 60, 0, -1);
    x = of(60, 60, 60, 60, 60, 60, 60, 60, 60, 60, 60, 60, 60, 60);
    reach(x, 0, -1, 1, 4, 0);
    reach(x, 1, 0, 1, 5, 12);
    reach(x, 2, 0, NONE);
    x.knit(60, 1, 0);
    reach(x, 0, 1, 0, 0, -1);
    reach(x, 0, 0, NONE, NONE, NONE);
  }

  private static void promise21ReachByYarn() {
    KnitRiver x = of(0);
    text(x, 0, "(b=4)*50+1");
    reach(x, 1, -2, 2, 2, 12, 10, -1);
    text(x, 0, "(b=5)*50+1");
    reach(x, 1, -2, 2, 52, 0, 12, -1);
    text(x, 0, "7");
    // All rows of stitches take as much: the first by the order of PLAIN, PURL 0, PURL 2, HEEL.
    reach(x, 1, -3, 3, 21, 0, 0, 12);
    reach(x, 0, -1, 0, 0, -1);
    reach(new KnitRiver(), 0, 2, 2, 10, 60, 0);
    text(x, 0, "(b=5)*90+w+t");
    reach(x, 1, -2, 2, 94, 0, 12);
    reach(x, 0, -3, 2, 4, 0, 0);
    x = new KnitRiver();
    // PURL 0 twice takes less than HEEL and PURL 2, but not by every TEXT.
    reach(x, -1, 1, 2, 10, 10, 10);
    text(x, 0, "(b=5)*90+9");
    reach(x, -1, 1, 2, 108, 60, 12);
  }

  private static void promise22Ease() {
    KnitRiver x = wide(4, 2);
    is("ease(30, 0)", x.ease(30, 0), -9);
    is("ease(30, 1)", x.ease(30, 1), 0);
    is("ease(0, 1)", x.ease(0, 1), 0);
    is("ease(999, 0)", x.ease(999, 0), -9);
    is("ease(999, 1)", x.ease(999, 1), 2);
    x.tense(1, -9);
    is("TENSION is held at -9", x.ease(39, 1), 1);
    is("ease(1000, 0)", x.ease(1000, 0), BEYOND);
    is("ease(-1, 0)", x.ease(-1, 0), BEYOND);
    is("ease(0, 2)", x.ease(0, 2), BEYOND);
    is("ease(0, -1)", x.ease(0, -1), BEYOND);
    is("only thought", x.rowIs(0, 3), 0);
    text(x, 1, "t*10+5");
    x.tense(0, 0);
    x.tense(1, 2);
    is("ease(40, 0): the least number", x.ease(40, 0), 4);
    is("ease(40, 1)", x.ease(40, 1), 0);
    x.tense(0, -5);
    is("ease(40, 0), held", x.ease(40, 0), 9);
    is("no ROWS: 0", new KnitRiver().ease(999, 1), 0);
    is("no ROWS: the least", new KnitRiver().ease(999, 0), -9);
    text(x, 1, "9-t*t");
    x.tense(0, -9);
    x.tense(1, -9);
    is("in the midst", x.ease(9, 0), 9);
    x.tense(0, 0);
    x.tense(1, 0);
    is("ease(9, 0)", x.ease(9, 0), 0);
    x.tense(0, 3);
    x.tense(1, 3);
    is("ease(9, 0)", x.ease(9, 0), -3);
    // All FLOOD by all WATER at 0 and above: the first one holds back all from the second.
    text(x, 1, "w-4");
    is("as many by each: the least", x.ease(1, 0), -9);
    is("ease(1, 1)", x.ease(1, 1), 1);
  }

  private static void promise22EaseOfAll() {
    KnitRiver x = new KnitRiver();
    x.wind(0, 9999);
    text(x, 1, "w*7+k");
    for (int holds = 90; holds > 75; holds--) {
      x.knit(10 * (holds % 7), holds / 7, 0);
    }
    is("all FLOOD by each number: the least", x.ease(999, 0), -9);
    is("all FLOOD by each number", x.ease(999, 1), 15);
  }

  private static void odds(KnitRiver x, int above, int below) {
    is("odds(0)", x.odds(0), above);
    is("odds(1)", x.odds(1), below);
  }

  private static void promise23Odds() {
    odds(new KnitRiver(), 1, 1);
    odds(wide(1), 11, 50);
    odds(wide(4, 2, 3), 21, 50);
    odds(wide(5), 1, 1);
    KnitRiver x = wide(3, 2);
    int[][] byHolds = {{0, 1, 50}, {1, 1, 25}, {4, 1, 10}, {9, 1, 5}, {24, 1, 2}, {48, 49, 50}, {49, 1, 1}, {999, 1, 1}};
    for (int[] each : byHolds) {
      text(x, 1, "" + each[0]);
      odds(x, each[1], each[2]);
    }
    text(x, 1, "(w=3)*20+4");
    odds(x, 1, 10);
    is("odds(2)", x.odds(2), BEYOND);
    is("odds(-1)", x.odds(-1), BEYOND);
  }

  private static void fits(KnitRiver x, int ways, int least) {
    is("fits(0, 0)", x.fits(0, 0), ways);
    is("fits(0, 1)", x.fits(0, 1), least);
  }

  private static void promise24Fits() {
    KnitRiver x = wide(6, 5);
    sheet(x, 0, 16);
    fits(x, 1000, 0);
    sheet(x, 0, 16, 70);
    fits(x, 1, 70);
    sheet(x, 0, 16, 70, 60, 50);
    fits(x, 1, 70);
    sheet(x, 0, 16, 70, 60, 49);
    fits(x, 0, NONE);
    sheet(x, 0, 16, 70, 70);
    fits(x, 0, NONE);
    sheet(x, 0, 16, 999, 60);
    fits(x, 1, 999);
    sheet(x, 0, 16, 1000, 60);
    fits(x, 0, NONE);
    sheet(x, 0, 16, -1);
    fits(x, 0, NONE);
    sheet(x, 0, 16, 0, 0, 0);
    fits(x, 1, 0);
    sheet(x, 0, 16, 0, 0, 0, 0);
    fits(x, 0, NONE);
    sheet(x, 0, 8, 200, 60);
    fits(x, 0, NONE);
    sheet(x, 0, 32, 20, 20, 20);
    fits(x, 1, 20);
    is("fits(1, 0)", x.fits(1, 0), NONE);
    is("fits(4, 0)", x.fits(4, 0), BEYOND);
    is("fits(-1, 0)", x.fits(-1, 0), BEYOND);
    is("fits(0, 2)", x.fits(0, 2), BEYOND);
    is("fits(1, -1): BEYOND ahead of NONE", x.fits(1, -1), BEYOND);
    x = new KnitRiver();
    sheet(x, 0, 16, 321);
    fits(x, 1, 321);
  }

  private static void voice(KnitRiver x, int row, int voice, int v, int want, int... bodies) {
    String call = "voice(" + row + ", " + voice + ", " + v + ")";
    is(call, x.voice(row, voice, v), want);
    is(call + ": BODIES", x.count(7), bodies.length);
    for (int i = 0; i < bodies.length; i++) {
      is(call + ": body(" + i + ")", x.body(i), bodies[i]);
    }
  }

  private static void promise25Voice() {
    // Row k, and m 5 for each.
    KnitRiver x = of(5, 15, 25, 35, 45, 55, 65);
    voice(x, 0, 0, 7, 7, 10);
    voice(x, 0, 1, 7, 14, 11, 10);
    voice(x, 0, 2, 7, 9, 12, 11, 10);
    voice(x, 0, 3, 7, 1, 13);
    voice(x, 1, 0, 7, 4, 20, 10);
    voice(x, 1, 1, 7, 8, 11, 20, 10);
    voice(x, 1, 2, 7, 3, 12, 11, 20, 10);
    voice(x, 1, 3, 7, -3, 21, 13, 11, 20, 10);
    voice(x, 2, 0, 7, 9, 10);
    voice(x, 2, 1, 7, -18, 30, 11, 10);
    voice(x, 2, 2, 7, -23, 12, 30, 11, 10);
    voice(x, 2, 3, -7, -2, 13);
    voice(x, 3, 1, 7, 20, 11, 10);
    voice(x, 3, 2, 7, 7, 40, 12, 11, 10);
    voice(x, 3, 2, -7, -5, 40, 12, 11, 10);
    voice(x, 4, 0, 7, 21, 50, 20, 10);
    voice(x, 4, 1, 7, 42, 11, 50, 20, 10);
    voice(x, 4, 2, 7, 37 ^ 4, 51, 12, 11, 50, 20, 10);
    voice(x, 4, 3, 7, 7 + 6, 21, 13, 11, 50, 20, 10);
    voice(x, 5, 0, 7, 12, 10);
    voice(x, 5, 1, 7, -26, 60, 30, 11, 10);
    voice(x, 5, 2, 7, -31, 12, 60, 30, 11, 10);
    voice(x, 6, 0, 7, 9, 70);
    voice(x, 6, 1, 7, 23, 71, 11, 70);
    voice(x, 6, 2, 7, 18, 12, 71, 11, 70);
    voice(x, 6, 3, 7, -7, 13);
    is("PARTED", x.voice(5, 3, 7), PARTED);
    is("an ERROR changes nothing: THE TRACE stays", x.count(7), 1);
    is("an ERROR changes nothing: its BODY", x.body(0), 13);
    x.become(5, 15);
    is("PARTED in super.parts", x.voice(5, 3, 7), PARTED);
    is("told(6)", x.told(6), 2);
    x.become(5, 54);
    voice(x, 5, 3, 7, -7, 13);
    voice(x, 3, 0, 7, 10, 10);
    voice(x, 3, 3, 7, 3, 13);
    voice(x, 5, 0, 7, 12, 10);
    is("voice(7, 0, 0)", x.voice(7, 0, 0), BEYOND);
    is("voice(-1, 0, 0)", x.voice(-1, 0, 0), BEYOND);
    is("voice(0, 4, 0)", x.voice(0, 4, 0), BEYOND);
    is("voice(0, -1, 0)", x.voice(0, -1, 0), BEYOND);
    voice(x, 1, 0, MIN, MAX - 2, 20, 10);
    voice(x, 6, 3, MIN, MIN, 13);
    voice(x, 0, 0, BEYOND, BEYOND, 10);
    is("no ERROR", x.told(1), 4);
  }

  private static void promise26Body() {
    KnitRiver x = of(0, 12);
    x.voice(1, 2, 0);
    int[] bodies = {12, 11, 20, 10};
    for (int i = 0; i < 4; i++) {
      is("body(" + i + ")", x.body(i), bodies[i]);
    }
    is("body(4)", x.body(4), NONE);
    is("body(-1)", x.body(-1), NONE);
    is("body(MAX)", x.body(MAX), NONE);
    is("body(MIN)", x.body(MIN), NONE);
    x.voice(0, 0, 0);
    is("the latest voice()", x.body(0), 10);
    is("the latest voice(): no more", x.body(1), NONE);
    x.voice(9, 0, 0);
    is("an ERROR leaves it", x.count(7), 1);
  }

  private static void promise27Sheet() {
    KnitRiver x = new KnitRiver();
    is("sheet(3, 32, 24)", x.sheet(3, 32, 24), 1);
    is("put(3, 23, 5)", x.put(3, 23, 5), 1);
    is("put(3, 24, 5)", x.put(3, 24, 5), BEYOND);
    is("sheet(3, 8, 25)", x.sheet(3, 8, 25), BEYOND);
    is("sheet(3, 8, -1)", x.sheet(3, 8, -1), STATE);
    is("sheet(3, 8, MIN)", x.sheet(3, 8, MIN), STATE);
    is("sheet(4, 8, -1): BEYOND ahead of STATE", x.sheet(4, 8, -1), BEYOND);
    is("sheet(-1, 8, 1)", x.sheet(-1, 8, 1), BEYOND);
    for (int bits : new int[] {-8, 1, 7, 9, 24, 64, MIN}) {
      is("sheet(3, " + bits + ", -1): BEYOND ahead of STATE", x.sheet(3, bits, -1), BEYOND);
    }
    is("it stays", x.put(3, 23, 5), 1);
    is("sheet(3, 0, -1)", x.sheet(3, 0, -1), 1);
    is("it is missing", x.put(3, 0, 5), NONE);
    is("sheet(3, 0, 99)", x.sheet(3, 0, 99), 1);
    is("sheet(4, 0, 0)", x.sheet(4, 0, 0), BEYOND);
    is("sheet(0, 16, 0)", x.sheet(0, 16, 0), 1);
    is("no numbers", x.put(0, 0, 5), BEYOND);
    x = wide(1, 1);
    sheet(x, 1, 8, 2, 2);
    is("judge", x.judge(1), 2);
    x.sheet(1, 8, 2);
    is("all 0 again", x.judge(1), 0);
    x.tense(0, 5);
    is("all 0 again: TENSIONS", x.tensions(1), 2);
    is("all 0 again: the first", x.rowIs(0, 3), 0);
  }

  private static int asPut(int bits, int v) {
    KnitRiver x = new KnitRiver();
    sheet(x, 0, bits, v);
    return x.fits(0, 1);
  }

  private static void promise28Put() {
    is("8 bits: 127", asPut(8, 127), 127);
    is("8 bits: 128 is below 0", asPut(8, 128), NONE);
    is("8 bits: 256 + 5", asPut(8, 256 + 5), 5);
    is("8 bits: -251", asPut(8, -251), 5);
    is("16 bits: 999", asPut(16, 999), 999);
    is("16 bits: 65536 + 300", asPut(16, 65536 + 300), 300);
    is("16 bits: 65535 is below 0", asPut(16, 65535), NONE);
    is("32 bits: 65536 + 300", asPut(32, 65536 + 300), NONE);
    is("32 bits: 300", asPut(32, 300), 300);
    KnitRiver x = new KnitRiver();
    x.sheet(0, 8, 3);
    is("put(0, 2, 1)", x.put(0, 2, 1), 1);
    is("put(0, 3, 1)", x.put(0, 3, 1), BEYOND);
    is("put(0, -1, 1)", x.put(0, -1, 1), BEYOND);
    is("put(1, -1, 1): NONE ahead of that BEYOND", x.put(1, -1, 1), NONE);
    is("put(4, 0, 1)", x.put(4, 0, 1), BEYOND);
    is("put(-1, 0, 1)", x.put(-1, 0, 1), BEYOND);
  }

  /** How many numbers of a SHEET are TENSIONS of rows as these. */
  private static void numbers(String call, KnitRiver x, int sheet, int... want) {
    is(call + ": numbers", x.tensions(sheet), want.length);
    for (int i = 0; i < want.length; i++) {
      is(call + ": number " + i, x.rowIs(i, 3), want[i]);
    }
  }

  private static void promise29Move() {
    KnitRiver x = of(0, 0, 0, 0, 0);
    sheet(x, 0, 8, 1, 2, 3, 4, 5);
    is("move to the same, on", x.move(0, 0, 0, 1, 4), 4);
    numbers("move to the same, on", x, 0, 1, 1, 2, 3, 4);
    sheet(x, 0, 8, 1, 2, 3, 4, 5);
    is("move to the same, back", x.move(0, 1, 0, 0, 4), 4);
    numbers("move to the same, back", x, 0, 2, 3, 4, 5, 5);
    sheet(x, 0, 8, 1, 2, 3, 4, 5);
    sheet(x, 1, 8, -1, -2, -3);
    is("move(0, 3, 1, 1, 2)", x.move(0, 3, 1, 1, 2), 2);
    numbers("to another one", x, 1, -1, 4, 5);
    numbers("from one", x, 0, 1, 2, 3, 4, 5);
    sheet(x, 2, 8, 9, 8, 7);
    is("all", x.move(2, 0, 1, 0, 3), 3);
    numbers("all", x, 1, 9, 8, 7);
    sheet(x, 1, 8, -1, 4, 5);
    is("none at the ends", x.move(0, 5, 1, 3, 0), 0);
    is("move(0, 4, 1, 0, 2)", x.move(0, 4, 1, 0, 2), BEYOND);
    is("move(0, 0, 1, 2, 2)", x.move(0, 0, 1, 2, 2), BEYOND);
    is("move(0, 6, 1, 0, 0)", x.move(0, 6, 1, 0, 0), BEYOND);
    is("move(0, 0, 1, 4, 0)", x.move(0, 0, 1, 4, 0), BEYOND);
    is("move(0, -1, 1, 0, 1)", x.move(0, -1, 1, 0, 1), BEYOND);
    is("move(0, 0, 1, -1, 1)", x.move(0, 0, 1, -1, 1), BEYOND);
    is("move(0, 0, 1, 0, -1)", x.move(0, 0, 1, 0, -1), BEYOND);
    is("move(0, MAX, 1, 0, MAX)", x.move(0, MAX, 1, 0, MAX), BEYOND);
    is("move(0, 0, 1, MAX, MAX)", x.move(0, 0, 1, MAX, MAX), BEYOND);
    is("move(0, 0, 1, 0, MIN)", x.move(0, 0, 1, 0, MIN), BEYOND);
    numbers("nothing came", x, 1, -1, 4, 5);
    x.sheet(2, 16, 3);
    is("unlike bits ahead of BEYOND", x.move(0, 0, 2, 0, -1), KIND);
    is("missing ahead of BEYOND", x.move(0, 0, 3, 0, -1), NONE);
    is("missing", x.move(3, 0, 0, 0, 0), NONE);
    is("no such SHEET", x.move(0, 0, 4, 0, 0), BEYOND);
    is("no such SHEET", x.move(-1, 0, 0, 0, 0), BEYOND);
    is("no such SHEET ahead of a missing one", x.move(3, 0, 4, 0, 0), BEYOND);
  }

  private static void promise30Tensions() {
    KnitRiver x = of(0, 0, 0);
    sheet(x, 0, 16, -9, 9, 10, 4);
    is("up to 10", x.tensions(0), 2);
    int[] want = {-9, 9, 0};
    for (int i = 0; i < 3; i++) {
      is("TENSION of " + i, x.rowIs(i, 3), want[i]);
    }
    is("no ERROR", x.told(1), 0);
    sheet(x, 0, 16, 1, 2, 3, 4);
    is("more numbers than ROWS", x.tensions(0), 3);
    is("TENSION of 2", x.rowIs(2, 3), 3);
    sheet(x, 0, 16, -10, 5);
    is("the first is -10", x.tensions(0), 0);
    is("TENSION of 1", x.rowIs(1, 3), 2);
    sheet(x, 1, 16, 7);
    is("less numbers than ROWS", x.tensions(1), 1);
    is("tensions(2)", x.tensions(2), NONE);
    is("tensions(4)", x.tensions(4), BEYOND);
    is("tensions(-1)", x.tensions(-1), BEYOND);
    is("without ROWS", withSheet(0).tensions(0), 0);
  }

  private static KnitRiver withSheet(int... numbers) {
    KnitRiver x = new KnitRiver();
    sheet(x, 0, 8, numbers);
    return x;
  }

  private static void promise31Judge() {
    KnitRiver x = wide(1, 2, 3);
    sheet(x, 0, 8, 2, 4, 6, 8);
    is("all of the ROWS", x.judge(0), 3);
    x.put(0, 1, 5);
    is("from the first on", x.judge(0), 1);
    sheet(x, 0, 8, 2, 4);
    is("less numbers than ROWS", x.judge(0), 2);
    x.drop(1);
    is("now", x.judge(0), 1);
    x = wide(1, 2, 3);
    x.pull(2);
    sheet(x, 0, 8, 2, 4, 6);
    is("not of a ROW that is no more", x.judge(0), 2);
    is("judge(1)", x.judge(1), NONE);
    is("judge(4)", x.judge(4), BEYOND);
    is("judge(-1)", x.judge(-1), BEYOND);
    is("without ROWS", withSheet(0).judge(0), 0);
  }

  private static void promise32And33ImageAndRestore() {
    KnitRiver x = of(5, 16);
    x.tie(1, 1);
    x.tense(0, -3);
    x.wind(1, 2);
    x.season(5);
    x.seed(99);
    feed(x, "w*3");
    x.text(1);
    feed(x, "b+");
    x.tell(8);
    x.voice(0, 0, 0);
    is("restore: NONE", x.restore(), NONE);
    is("image()", x.image(), 1);
    x.pull(1);
    x.tie(1, 0);
    x.pull(0);
    x.wind(0, 3);
    x.wind(1, 1);
    x.season(9);
    x.season(9);
    x.seed(5);
    feed(x, "1");
    x.text(0);
    text(x, 1, "5");
    x.untell(1);
    feed(x, "77777");
    x.check();
    x.tell(1);
    x.tell(2);
    x.voice(0, 9, 0);
    sheet(x, 2, 8, 0);
    is("restore()", x.restore(), 1);
    int[] counts = {2, 9986, 2, 1, 5, 2, 1, 1, 99};
    for (int what = 0; what < counts.length; what++) {
      is("restored: count(" + what + ")", x.count(what), counts[what]);
    }
    is("restored: m", x.rowIs(0, 1), 5);
    is("restored: KIND", x.rowIs(1, 0), 1);
    is("restored: TIED", x.rowIs(1, 4), 1);
    is("restored: TENSION", x.rowIs(0, 3), -3);
    is("restored: HOLDS", x.rowIs(0, 6), 9);
    feed(x, "1");
    is("restored: THE TAPE", x.text(0), 1);
    is("its TEXT", x.law(0, 4, 0, 0), 5);
    is("restored: what waits", x.check(), 1);
    is("a SHEET isn't of the IMAGE", x.judge(2), 0);
    is("told() isn't of the IMAGE", x.told(2), 1);
    x.voice(1, 2, 0);
    x.season(1);
    is("the IMAGE stays", x.restore(), 1);
    is("no TEXT of YARN in it", x.untell(0), 0);
    is("THE TRACE isn't of the IMAGE", x.count(7), 4);
    is("image() again", x.image(), 2);
    x.season(1);
    is("image() again", x.image(), 3);
    x.season(1);
    is("in place of one ahead", x.restore(), 2);
    is("how often isn't of the IMAGE", x.image(), 4);
    x.pull(0);
    x.tie(1, 0);
    x.pull(0);
    x.knit(69, 12, 9);
    x.knit(58, 11, 8);
    x.knit(27, 10, 7);
    x.tell(1);
    x.image();
    int[] then = {6, 9, 12, 9, 0};
    x.become(0, 31);
    x.tense(0, 2);
    x.drop(0);
    x.tie(0, 1);
    x.check();
    x.tell(12);
    is("restore()", x.restore(), 2);
    for (int what = 0; what < then.length; what++) {
      is("restored: rowIs(0, " + what + ")", x.rowIs(0, what), then[what]);
    }
    is("restored: what waits", x.check(), 1);
    KnitRiver y = new KnitRiver();
    y.image();
    y.knit(0, 1, 0);
    y.sheet(0, 8, 3);
    is("restore() of nothing", y.restore(), 0);
    is("no ROWS", y.count(0), 0);
    is("the SHEET is there", y.judge(0), 0);
  }

  private static void promise34Tell() {
    KnitRiver x = new KnitRiver();
    for (int i = 1; i <= 24; i++) {
      is("tell", x.tell(MIN), i);
    }
    is("tell: FULL", x.tell(0), FULL);
    is("24 wait", x.count(6), 24);
  }

  private static void promise35Check() {
    KnitRiver x = wide(4, 5, 6);
    is("check() of none", x.check(), 0);
    x.tell(4);
    x.tell(5);
    is("check() of the first ones", x.check(), 0);
    is("none wait", x.count(6), 0);
    x.tell(4);
    x.tell(6);
    x.tell(7);
    is("check(): the first that isn't so", x.check(), 2);
    is("none wait", x.count(6), 0);
    x.tell(5);
    is("check(): place 0", x.check(), 1);
    for (int wide = 4; wide <= 7; wide++) {
      x.tell(wide);
    }
    is("check(): there is no ROW", x.check(), 4);
    x.pull(2);
    for (int wide = 4; wide <= 6; wide++) {
      x.tell(wide);
    }
    is("check(): a ROW that is no more", x.check(), 3);
    is("no ERROR", x.told(1), 0);
  }

  private static void promise36Count() {
    KnitRiver x = of(0, 10);
    x.wind(1, 2);
    x.season(12);
    x.feed(0L, 5);
    x.tell(0);
    x.voice(0, 2, 0);
    int[] counts = {2, 9986, 2, 1, 12, 5, 1, 3, 1};
    for (int what = 0; what < counts.length; what++) {
      is("count(" + what + ")", x.count(what), counts[what]);
    }
    is("count(9)", x.count(9), BEYOND);
    is("count(-1)", x.count(-1), BEYOND);
    x.seed(BEYOND);
    is("count(8)", x.count(8), BEYOND);
    is("no ERROR", x.told(1), 2);
  }

  private static void promise37Told() {
    KnitRiver x = of(0);
    x.rowIs(9, 9);
    x.restore();
    x.body(0);
    x.sheet(0, 8, -1);
    x.drop(0);
    x.drop(0);
    x.drop(0);
    for (int i = 0; i < 25; i++) {
      x.tell(0);
    }
    x.as(0, 3);
    x.voice(0, 3, 1);
    int[] want = {1, 2, 2, 1, 1, 1};
    for (int k = 1; k <= 6; k++) {
      is("told(" + k + ")", x.told(k), want[k - 1]);
    }
    is("told(0)", x.told(0), BEYOND);
    is("told(7)", x.told(7), BEYOND);
    is("told(MIN)", x.told(MIN), BEYOND);
    is("counted, too", x.told(1), 4);
  }
}
