import java.util.Random;

/** Runs of calls by chance, sensible and senseless, each answered by the program as by the model. */
public final class ModelTest {
  private static int wrong = 0;
  private final Random lot;
  private final WaxWings x = new WaxWings();
  private final Model m = new Model();
  private final StringBuilder told = new StringBuilder();

  private ModelTest(long seed) { lot = new Random(seed); }

  public static void main(String[] args) {
    int runs = args.length > 1 ? Integer.parseInt(args[1]) : 1200;
    for (int run = 0; run < runs && wrong < 5; run++) new ModelTest(run).run(run);
    faults(new Random(5), runs * 15);
    System.out.println(wrong == 0 ? runs + " runs are as by the model" : wrong + " runs are not as by the model");
    if (wrong != 0) System.exit(1);
  }

  private void run(int run) {
    int calls = 0;
    while (calls < 500) {
      if (calls < 400 && (calls == 0 || lot.nextInt(120) == 0)) {
        String s = skyText(lot);
        int t = lot.nextInt(4);
        same("text", x.text(t, s.length()), m.text(t, s.length()));
        for (int i = 0; i < s.length(); i++) same("put", x.put(t, i, s.charAt(i)), m.put(t, i, s.charAt(i)));
        same("fault of " + s, x.fault(t), m.fault(t));
        same("sky of " + s, x.sky(t), m.sky(t));
        calls += s.length() + 3;
      } else if (calls < 400 && lot.nextInt(12) == 0) {
        int r = lot.nextInt(6), n = lot.nextInt(9);
        same("row", x.row(r, n), m.row(r, n));
        for (int i = 0; i < n; i++) { int b = lot.nextInt(3); same("lay", x.lay(r, i, b), m.lay(r, i, b)); }
        calls += n + 1;
      } else {
        any();
        calls++;
      }
      if (!sameState()) { wrong++; System.out.println("run " + run + ": " + told); return; }
    }
  }

  private boolean differs = false;
  private void same(String call, long got, long want) {
    told.append(call).append(" -> ").append(got).append("\n");
    if (got != want) { differs = true; told.append("due is ").append(want).append("\n"); }
  }

  private boolean sameState() {
    boolean same = x.asked() == m.asked() && x.upper() == m.upper() && x.lower() == m.lower()
        && x.finding() == m.finding() && x.digest() == m.digest();
    for (int f = 0; f <= 6; f++) same &= x.findings(f) == m.findings(f);
    if (!same) told.append("what is told differs: asked ").append(x.asked()).append(" due ").append(m.asked())
        .append(", upper ").append(x.upper()).append(" due ").append(m.upper()).append("\n");
    return same && !differs;
  }

  /** Texts with a few signs changed, put in, left out: each fault where no sky goes on so. */
  private static void faults(Random lot, int many) {
    WaxWings x = new WaxWings();
    String odd = "  ./=#0145fob9>x\u00e9";
    for (int n = 0; n < many && wrong < 5; n++) {
      StringBuilder s = new StringBuilder(skyText(lot));
      for (int k = lot.nextInt(4); k > 0 && s.length() > 0; k--) {
        int p = lot.nextInt(s.length());
        if (lot.nextInt(4) == 0) s.insert(p, odd.charAt(lot.nextInt(odd.length())));
        else if (lot.nextInt(3) == 0) s.deleteCharAt(p);
        else if (lot.nextInt(3) == 0) s.setLength(p);
        else s.setCharAt(p, odd.charAt(lot.nextInt(odd.length())));
      }
      if (s.length() > 80) s.setLength(80);
      x.text(0, s.length());
      for (int i = 0; i < s.length(); i++) x.put(0, i, s.charAt(i));
      int got = x.fault(0), want = Model.faultOf(s.toString());
      if (got == want) continue;
      wrong++;
      System.out.println("fault of '" + s + "' answered " + got + ", due is " + want);
    }
  }

  static String skyText(Random lot) {
    int columns = 2 + lot.nextInt(6), lines = 1 + lot.nextInt(5);
    String signs = lot.nextInt(3) == 0 ? ".csg>#" : "......ccsgg>#";
    StringBuilder s = new StringBuilder(" ".repeat(lot.nextInt(4) == 0 ? lot.nextInt(3) : 0));
    for (int y = 0; y < lines; y++) {
      if (y > 0) s.append('/');
      for (int c = 0; c < columns; c++) s.append(signs.charAt(lot.nextInt(signs.length())));
    }
    s.append('=').append(lot.nextInt(10) < 7 ? lot.nextInt(6) : lot.nextInt(10));
    for (int f = lot.nextInt(5); f > 0; f--) {
      s.append("foblna".charAt(lot.nextInt(6))).append(lot.nextInt(10)).append(4 + lot.nextInt(6)).append(lot.nextInt(lines));
    }
    s.append(" ".repeat(lot.nextInt(4) == 0 ? lot.nextInt(3) : 0));
    if (lot.nextInt(12) == 0) {
      String odd = " ./=#0fba9>x\u00e9";
      int p = lot.nextInt(s.length());
      char c = odd.charAt(lot.nextInt(odd.length()));
      switch (lot.nextInt(3)) {
        case 0: s.insert(p, c); break;
        case 1: s.deleteCharAt(p); break;
        default: s.setCharAt(p, c);
      }
    }
    return s.length() > 80 ? s.substring(0, 80) : s.toString();
  }

  private int num(int most) {
    switch (lot.nextInt(40)) {
      case 0: return -1 - lot.nextInt(3);
      case 1: return most + 1 + lot.nextInt(3);
      case 2: return lot.nextBoolean() ? Integer.MAX_VALUE : Integer.MIN_VALUE;
      case 3: return lot.nextInt();
      default: return lot.nextInt(most + 1);
    }
  }

  private void any() {
    int i = num(3), r = num(5), a = num(8), b = num(2), c = num(6), p = num(12);
    String args = "(" + i + " r" + r + " a" + a + " b" + b + " c" + c + " p" + p + ")";
    switch (lot.nextInt(46)) {
      case 0: int size = lot.nextInt(4) == 0 ? num(40) : a; same("row" + args, x.row(r, size), m.row(r, size)); break;
      case 1: int v = lot.nextBoolean() ? b : lot.nextInt(); same("lay" + args + v, x.lay(r, a, v), m.lay(r, a, v)); break;
      case 2: same("at" + args, x.at(r, a), m.at(r, a)); break;
      case 3: same("tear" + args, x.tear(r), m.tear(r)); break;
      case 4: int to = num(5), n = num(8), j = num(8);
        same("copy" + args + to + " " + n + " " + j, x.copy(r, a, to, j, n), m.copy(r, a, to, j, n)); break;
      case 5: same("mean" + args, x.mean(r), m.mean(r)); break;
      case 6: int t = num(3); int w = num(80); if (lot.nextInt(4) == 0) same("text" + t + " " + w, x.text(t, w), m.text(t, w)); break;
      case 7: int u = lot.nextInt(), tt = num(3), q = num(80); same("put" + tt + " " + q + " " + u, x.put(tt, q, u), m.put(tt, q, u)); break;
      case 8: same("fault" + args, x.fault(i), m.fault(i)); break;
      case 9: same("sky" + args, x.sky(i), m.sky(i)); break;
      case 10: same("flyer" + args, x.flyer(i, a), m.flyer(i, a)); break;
      case 11: same("mark" + args, x.mark(i, c), m.mark(i, c)); break;
      case 12: same("air" + args, x.air(c, i), m.air(c, i)); break;
      case 13: if (lot.nextBoolean()) same("sun" + args, x.sun(a), m.sun(a)); break;
      case 14: same("letters" + args, x.letters(i, b), m.letters(i, b)); break;
      case 15: same("beat" + args, x.beat(i, b), m.beat(i, b)); break;
      case 16: same("undo" + args, x.undo(a), m.undo(a)); break;
      case 17: same("over", x.over(), m.over()); break;
      case 18: same("can" + args, x.can(i), m.can(i)); break;
      case 19: same("keep" + args, x.keep(b), m.keep(b)); break;
      case 20: same("on" + args, x.on(b), m.on(b)); break;
      case 21: same("judge" + args, x.judge(i, r), m.judge(i, r)); break;
      case 22: same("soonest" + args, x.soonest(i, r), m.soonest(i, r)); break;
      case 23: same("lightest" + args, x.lightest(i, r), m.lightest(i, r)); break;
      case 24: same("ways" + args, x.ways(i), m.ways(i)); break;
      case 25: same("heights" + args, x.heights(i, c), m.heights(i, c)); break;
      case 26: int nth = lot.nextBoolean() ? num(3) : num(99); same("nth" + args + nth, x.nth(i, nth, r), m.nth(i, nth, r)); break;
      case 27: same("wax" + args, x.wax(i), m.wax(i)); break;
      case 28: same("strength" + args, x.strength(i), m.strength(i)); break;
      case 29: same("most" + args, x.most(i), m.most(i)); break;
      case 30: same("hottest" + args, x.hottest(i), m.hottest(i)); break;
      case 31: same("kinds" + args, x.kinds(i), m.kinds(i)); break;
      case 32: same("post" + args, x.post(p, r), m.post(p, r)); break;
      case 33: same("plan" + args, x.plan(i, r, p), m.plan(i, r, p)); break;
      case 34: same("odds" + args, x.odds(i, p), m.odds(i, p)); break;
      case 35: same("choice" + args, x.choice(i, p), m.choice(i, p)); break;
      case 36: same("boats" + args, x.boats(i + 1, r), m.boats(i + 1, r)); break;
      case 37: same("drip" + args, x.drip(i, r), m.drip(i, r)); break;
      case 38: int set = lot.nextInt(3) == 0 ? num(127) : 127 << c & 127; same("feathers" + args + set, x.feathers(i, set), m.feathers(i, set)); break;
      case 39: int seed = lot.nextInt(9) == 0 ? num(3) : lot.nextInt() >>> 1; same("lots" + args + seed, x.lots(i, a + 1, seed), m.lots(i, a + 1, seed)); break;
      case 40: same("count" + args, x.count(a), m.count(a)); break;
      default: same("beat" + args, x.beat(i, b), m.beat(i, b));
    }
  }
}
