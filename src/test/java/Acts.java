/** The acts of KnitRiver by their names. */
final class Acts {
  private Acts() {}

  /** What an act answers; numbers that are not given are 0. */
  static long answer(KnitRiver river, String act, long... a) {
    int[] n = new int[5];
    for (int i = 0; i < a.length; i++) {
      n[i] = (int) a[i];
    }
    switch (act) {
      case "knit": return river.knit(n[0], n[1], n[2]);
      case "rowIs": return river.rowIs(n[0], n[1]);
      case "become": return river.become(n[0], n[1]);
      case "as": return river.as(n[0], n[1]);
      case "tie": return river.tie(n[0], n[1]);
      case "drop": return river.drop(n[0]);
      case "tense": return river.tense(n[0], n[1]);
      case "pull": return river.pull(n[0]);
      case "wind": return river.wind(n[0], n[1]);
      case "feed": return river.feed(a[0], n[1]);
      case "text": return river.text(n[0]);
      case "untell": return river.untell(n[0]);
      case "law": return river.law(n[0], n[1], n[2], n[3]);
      case "season": return river.season(n[0]);
      case "loose": return river.loose(n[0]);
      case "seed": return river.seed(n[0]);
      case "flow": return river.flow(n[0], n[1], n[2]);
      case "course": return river.course(n[0], n[1]);
      case "crosses": return river.crosses();
      case "reach": return river.reach(n[0], n[1], n[2]);
      case "ease": return river.ease(n[0], n[1]);
      case "odds": return river.odds(n[0]);
      case "fits": return river.fits(n[0], n[1]);
      case "voice": return river.voice(n[0], n[1], n[2]);
      case "body": return river.body(n[0]);
      case "sheet": return river.sheet(n[0], n[1], n[2]);
      case "put": return river.put(n[0], n[1], n[2]);
      case "move": return river.move(n[0], n[1], n[2], n[3], n[4]);
      case "tensions": return river.tensions(n[0]);
      case "judge": return river.judge(n[0]);
      case "image": return river.image();
      case "restore": return river.restore();
      case "tell": return river.tell(n[0]);
      case "check": return river.check();
      case "count": return river.count(n[0]);
      case "told": return river.told(n[0]);
      default: throw new IllegalArgumentException("no such act: " + act);
    }
  }
}
