/** Each promise by answers worked out by hand: ordinary ones, edges, wrong ones. */
public final class PromiseTest {
  private static final int BAD = -1, FULL = -2, FINDING = -3, STATE = -4, NONE = -9;
  private static final int LOWEST = Integer.MIN_VALUE, HIGHEST = Integer.MAX_VALUE;
  private static int wrong = 0, promise = 0, asked = 0;

  private static void due(String call, long got, long want) {
    asked++;
    if (got == want) return;
    wrong++;
    System.out.println("promise " + promise + ": " + call + " answered " + got + ", due is " + want);
  }

  /** A refusal by a FINDING: its answer, which one, and that it was counted once. */
  private static void dueFinding(WaxWings x, int before, int got, int finding) {
    due("a finding's answer", got, FINDING);
    due("finding()", x.finding(), finding);
    due("findings(" + finding + ")", x.findings(finding), before + 1);
  }

  private static void text(WaxWings x, int t, String s) {
    x.text(t, s.length());
    for (int i = 0; i < s.length(); i++) x.put(t, i, s.charAt(i));
  }

  private static WaxWings sky(String s) {
    WaxWings x = new WaxWings();
    text(x, 0, s);
    if (x.sky(0) < 0) { wrong++; System.out.println("promise " + promise + ": no sky " + s); }
    return x;
  }

  private static void row(WaxWings x, int r, int... v) {
    x.row(r, v.length);
    for (int i = 0; i < v.length; i++) x.lay(r, i, v[i]);
  }

  private static void dueRow(WaxWings x, int r, int... v) {
    for (int i = 0; i < v.length; i++) {
      due("at(" + r + ", " + i + ")", x.at(r, i), 1);
      due("place " + i + " of row " + r, x.asked(), v[i]);
    }
    due("at(" + r + ", " + v.length + ")", x.at(r, v.length), FINDING);
    due("finding()", x.finding(), 2);
  }

  private static void dueFlyer(WaxWings x, int i, int... v) {
    for (int what = 0; what < v.length; what++) {
      due("flyer(" + i + ", " + what + ")", x.flyer(i, what), 1);
      due("asked() behind flyer(" + i + ", " + what + ")", x.asked(), v[what]);
    }
  }

  private static void dueChance(WaxWings x, String call, int got, long upper, long lower) {
    due(call, got, 1);
    due("upper() behind " + call, x.upper(), upper);
    due("lower() behind " + call, x.lower(), lower);
  }

  private static int faultOf(String s) {
    WaxWings x = new WaxWings();
    text(x, 0, s);
    return x.fault(0);
  }

  /** A FLYER who fell by heat in column 1. */
  private static WaxWings fallen() {
    WaxWings x = sky(".../.../...=9f091");
    due("beat(0, 2)", x.beat(0, 2), 2);
    return x;
  }

  private static void rowsAndTexts() {
    promise = 1;
    WaxWings x = new WaxWings();
    for (int what = 0; what <= 8; what++) due("count(" + what + ")", x.count(what), 0);
    due("asked()", x.asked(), 0);
    due("upper()", x.upper(), 0);
    due("lower()", x.lower(), 1);
    due("finding()", x.finding(), 0);
    due("air(0, 0)", x.air(0, 0), BAD);
    due("flyer(0, 0)", x.flyer(0, 0), BAD);
    due("at(0, 0)", x.at(0, 0), FINDING);
    due("put(0, 0, 1)", x.put(0, 0, 1), FINDING);
    due("on(0)", x.on(0), FINDING);
    due("findings(1)", x.findings(1), 3);

    promise = 2;
    due("row(0, 5)", x.row(0, 5), 5);
    dueRow(x, 0, 0, 0, 0, 0, 0);
    x.lay(0, 1, 7);
    due("row(0, 3)", x.row(0, 3), 3);
    dueRow(x, 0, 0, 0, 0);
    due("row(5, 40)", x.row(5, 40), 40);
    due("row(1, 0)", x.row(1, 0), 0);
    due("count(6)", x.count(6), 3);
    due("row(6, 1)", x.row(6, 1), BAD);
    due("row(-1, 1)", x.row(-1, 1), BAD);
    due("row(0, 41)", x.row(0, 41), BAD);
    due("row(0, HIGHEST)", x.row(0, HIGHEST), BAD);
    due("row(6, -1)", x.row(6, -1), BAD);
    dueFinding(x, 0, x.row(0, -1), 5);
    dueFinding(x, 1, x.row(2, LOWEST), 5);
    due("count(6)", x.count(6), 3);

    promise = 3;
    x = new WaxWings();
    x.row(2, 2);
    due("lay(2, 1, -5)", x.lay(2, 1, -5), 1);
    due("asked()", x.asked(), 0);
    due("lay(2, 1, HIGHEST)", x.lay(2, 1, HIGHEST), 1);
    due("asked()", x.asked(), -5);
    due("lay(6, 0, 1)", x.lay(6, 0, 1), BAD);
    due("lay(-1, 0, 1)", x.lay(-1, 0, 1), BAD);
    dueFinding(x, 0, x.lay(3, 0, 1), 1);
    dueFinding(x, 0, x.lay(2, 2, 1), 2);
    dueFinding(x, 1, x.lay(2, -1, 1), 2);
    due("asked() behind refusals", x.asked(), -5);
    dueRow(x, 2, 0, HIGHEST);

    promise = 4;
    x.lay(2, 0, 9);
    due("at(2, 0)", x.at(2, 0), 1);
    due("asked()", x.asked(), 9);
    due("at(6, 0)", x.at(6, 0), BAD);
    due("at(3, 0)", x.at(3, 0), FINDING);
    due("finding()", x.finding(), 1);
    due("at(2, LOWEST)", x.at(2, LOWEST), FINDING);
    due("finding()", x.finding(), 2);
    due("asked()", x.asked(), 9);

    promise = 5;
    due("tear(2)", x.tear(2), 1);
    due("count(6)", x.count(6), 0);
    due("tear(2)", x.tear(2), FINDING);
    due("finding()", x.finding(), 1);
    due("tear(6)", x.tear(6), BAD);
    due("tear(-1)", x.tear(-1), BAD);

    promise = 6;
    x = new WaxWings();
    row(x, 0, 1, 2, 3, 4, 5);
    row(x, 1, 0, 0, 0);
    due("copy up in itself", x.copy(0, 0, 0, 1, 4), 1);
    dueRow(x, 0, 1, 1, 2, 3, 4);
    due("copy down in itself", x.copy(0, 2, 0, 0, 3), 1);
    dueRow(x, 0, 2, 3, 4, 3, 4);
    due("copy to another", x.copy(0, 3, 1, 1, 2), 1);
    dueRow(x, 1, 0, 3, 4);
    due("copy of a whole row", x.copy(1, 0, 0, 2, 3), 1);
    dueRow(x, 0, 2, 3, 0, 3, 4);
    due("copy of none at the end", x.copy(0, 5, 1, 3, 0), 1);
    due("BAD", x.copy(6, 0, 0, 0, -1), BAD);
    due("BAD", x.copy(0, 0, -1, 0, 1), BAD);
    int before = x.findings(2);
    dueFinding(x, 0, x.copy(0, 0, 5, 0, -1), 5);
    dueFinding(x, 0, x.copy(0, 9, 5, 0, 1), 1);
    dueFinding(x, 1, x.copy(5, 0, 0, 9, 1), 1);
    dueFinding(x, before, x.copy(0, 3, 1, 0, 3), 2);
    dueFinding(x, before + 1, x.copy(0, 0, 1, 1, 3), 2);
    dueFinding(x, before + 2, x.copy(0, -1, 1, 0, 1), 2);
    dueFinding(x, before + 3, x.copy(0, 6, 1, 0, 0), 2);
    dueFinding(x, before + 4, x.copy(0, 1, 1, 0, HIGHEST), 2);
    dueFinding(x, before + 5, x.copy(0, HIGHEST, 1, 0, HIGHEST), 2);
    dueRow(x, 1, 0, 3, 4);

    promise = 7;
    row(x, 2, -3, -4);
    due("mean(2)", x.mean(2), 1);
    due("asked()", x.asked(), -3);
    row(x, 2, HIGHEST, HIGHEST, HIGHEST);
    due("mean(2)", x.mean(2), 1);
    due("asked()", x.asked(), HIGHEST);
    row(x, 2, 1);
    due("mean(2)", x.mean(2), 1);
    due("asked()", x.asked(), 1);
    row(x, 2, -1, 2, 0);
    due("mean(2)", x.mean(2), 1);
    due("asked()", x.asked(), 0);
    row(x, 2, LOWEST, LOWEST);
    due("mean(2)", x.mean(2), 1);
    due("asked()", x.asked(), LOWEST);
    due("mean(6)", x.mean(6), BAD);
    x.row(3, 0);
    dueFinding(x, 0, x.mean(3), 4);
    due("mean(5)", x.mean(5), FINDING);
    due("finding()", x.finding(), 1);
    due("asked()", x.asked(), LOWEST);

    promise = 8;
    x = new WaxWings();
    due("text(0, 80)", x.text(0, 80), 80);
    due("put(0, 79, 46)", x.put(0, 79, 46), 1032);
    due("text(0, 0)", x.text(0, 0), 0);
    due("text(3, 1)", x.text(3, 1), 1);
    due("count(7)", x.count(7), 2);
    due("text(0, 81)", x.text(0, 81), BAD);
    due("text(4, 1)", x.text(4, 1), BAD);
    due("text(-1, -1)", x.text(-1, -1), BAD);
    dueFinding(x, 0, x.text(1, -1), 5);

    promise = 9;
    due("put(3, 0, 200)", x.put(3, 0, 200), 1032);
    due("put(3, 0, 127)", x.put(3, 0, 127), 944);
    due("put(3, 0, -129)", x.put(3, 0, -129), 1127);
    due("put(3, 0, 128)", x.put(3, 0, 128), 1127);
    due("put(3, 0, 0)", x.put(3, 0, 0), 872);
    due("put(4, 0, 0)", x.put(4, 0, 0), BAD);
    dueFinding(x, 0, x.put(2, 0, 0), 1);
    dueFinding(x, 0, x.put(3, 1, 0), 2);
    dueFinding(x, 1, x.put(3, -1, 0), 2);
    dueFinding(x, 2, x.put(0, 0, 0), 2);
    due("asked()", x.asked(), 0);
  }

  private static void skies() {
    promise = 10;
    due("the least", faultOf("..=0"), NONE);
    due("the greatest", faultOf("......./......./......./......./.......=9f994o994b994l994"), NONE);
    due("blanks around", faultOf("  ..=0f000  "), NONE);
    due("all signs, letters", faultOf(".csg>#=5f110b110l220a330"), NONE);
    due("empty", faultOf(""), 0);
    due("blanks alone", faultOf("   "), 3);
    due("an unknown sign", faultOf("..x=0"), 2);
    due("a byte below 0", faultOf(".\u00e9=0"), 1);
    due("one column", faultOf(".=0"), 1);
    due("one column, another line", faultOf("./.=0"), 1);
    due("no line", faultOf("=0"), 0);
    due("eight columns", faultOf("........=0"), 7);
    due("a line too long", faultOf("../...=0"), 5);
    due("a line too short", faultOf("../.=0"), 4);
    due("a line too short ahead of another", faultOf("../././..=0"), 4);
    due("an empty line", faultOf("..//..=0"), 3);
    due("a sixth line", faultOf("../../../../../..=0"), 14);
    due("a blank within", faultOf(".. =0"), 2);
    due("a blank within, blanks alone behind", faultOf("..  "), 2);
    due("a blank ahead of the sun", faultOf("..= 0"), 3);
    due("a blank for the sun, blanks alone behind", faultOf("..=  "), 3);
    due("the end within a line", faultOf("../."), 4);
    due("the end behind lines", faultOf("../.."), 5);
    due("the end ahead of the sun", faultOf("..="), 3);
    due("a letter for the sun", faultOf("..=f"), 3);
    due("two figures of the sun", faultOf("..=12"), 4);
    due("an unknown letter", faultOf("..=1x120"), 4);
    due("no wax", faultOf("..=1f"), 5);
    due("a blank for the wax", faultOf("..=1f "), 5);
    due("a sign for the strength", faultOf("..=1f1."), 6);
    due("the end ahead of the height", faultOf("..=1f11"), 7);
    due("a height that is none", faultOf("../..=1f112"), 10);
    due("a height with a rock", faultOf("../#.=1f111"), 10);
    due("a second one with a rock", faultOf("../#.=1f110f111"), 14);
    due("a fifth one", faultOf("..=1f110f110f110f110f110"), 20);
    due("behind blanks a flyer", faultOf("..=1 f110"), 5);
    due("behind blanks anything", faultOf("..=1f110  x"), 10);
    due("a slash behind the sun", faultOf("..=1/.."), 4);
    WaxWings x = new WaxWings();
    due("fault(4)", x.fault(4), BAD);
    due("fault(-1)", x.fault(-1), BAD);
    dueFinding(x, 0, x.fault(3), 1);

    promise = 11;
    text(x, 0, "  .c/s./##=7f351n420  ");
    text(x, 1, "..=");
    due("sky(0)", x.sky(0), 2);
    due("COLUMNS", x.count(1), 2);
    due("HEIGHTS", x.count(2), 3);
    due("SUN", x.count(3), 7);
    dueFlyer(x, 0, 0, 0, 1, 5, 0, 0, 0, 0);
    dueFlyer(x, 1, 4, 0, 0, 2, 0, 0, 0, 0);
    x.letters(0, 2);
    x.beat(0, 1);
    for (int k = 0; k < 3; k++) x.keep(k);
    due("sky(1): a fault", x.sky(1), STATE);
    due("BEATS", x.count(4), 1);
    due("kept SKIES", x.count(8), 3);
    due("sky(4)", x.sky(4), BAD);
    dueFinding(x, 1, x.sky(2), 1);
    due("sky(0) anew", x.sky(0), 2);
    due("BEATS", x.count(4), 0);
    due("kept SKIES", x.count(8), 0);
    dueFlyer(x, 0, 0, 0, 1, 5, 0, 0, 0, 0);
    text(x, 2, ".../...=0");
    due("no FLYERS", x.sky(2), 0);
    due("flyer(0, 0)", x.flyer(0, 0), BAD);

    promise = 12;
    x = sky("..../.g../....=6b992");
    x.letters(0, 1);
    due("beat(0, 0)", x.beat(0, 0), 0);
    dueFlyer(x, 0, 2, 1, 1, 9, 6, 0, 1, 0);
    due("beat(0, 2)", x.beat(0, 2), 2);
    dueFlyer(x, 0, 2, 2, 2, 9, 14, 0, 1, 2);
    due("flyer(0, 8)", x.flyer(0, 8), BAD);
    due("flyer(0, -1)", x.flyer(0, -1), BAD);
    due("flyer(1, 0)", x.flyer(1, 0), BAD);
    due("flyer(-1, 0)", x.flyer(-1, 0), BAD);
    due("asked()", x.asked(), 2);

    promise = 13;
    x = sky("....../....../......=5o991n991l991a991");
    for (int i = 0; i < 4; i++) x.letters(i, i);
    due("mark(0, 1)", x.mark(0, 1), 3);
    due("mark(1, 1)", x.mark(1, 1), 4);
    due("mark(2, 3)", x.mark(2, 3), 3);
    due("mark(3, 3)", x.mark(3, 3), 3);
    due("mark(1, 4)", x.mark(1, 4), 5);
    due("mark(3, 5)", x.mark(3, 5), 3);
    x.beat(1, 1);
    due("mark(1, 4)", x.mark(1, 4), 4);
    due("mark(3, 5)", x.mark(3, 5), 2);
    dueFinding(x, 0, x.mark(0, 4), 3);
    dueFinding(x, 1, x.mark(2, 5), 3);
    dueFinding(x, 2, x.mark(0, 2), 3);
    due("mark(0, 0)", x.mark(0, 0), BAD);
    due("mark(0, 6)", x.mark(0, 6), BAD);
    due("mark(4, 1)", x.mark(4, 1), BAD);
    due("mark(-1, 1)", x.mark(-1, 1), BAD);
    x = sky("g./../c.=5b990f990");
    due("mark(0, 2)", x.mark(0, 2), 6);
    x.sun(2);
    due("mark(0, 2)", x.mark(0, 2), 0);
    due("mark(1, 2)", x.mark(1, 2), FINDING);

    promise = 14;
    x = sky(".cs/g>#=0");
    for (int c = 0; c < 3; c++) for (int h = 0; h < 2; h++) due("air(" + c + ", " + h + ")", x.air(c, h), 3 * h + c);
    due("air(3, 0)", x.air(3, 0), BAD);
    due("air(0, 2)", x.air(0, 2), BAD);
    due("air(-1, 0)", x.air(-1, 0), BAD);
    due("air(0, -1)", x.air(0, -1), BAD);

    promise = 15;
    due("sun(9)", x.sun(9), 0);
    due("sun(0)", x.sun(0), 9);
    due("sun(10)", x.sun(10), BAD);
    due("sun(-1)", x.sun(-1), BAD);
    due("count(3)", x.count(3), 0);
    x = new WaxWings();
    due("sun(1) without COLUMNS", x.sun(1), STATE);
    due("sun(10) without COLUMNS", x.sun(10), BAD);

    promise = 16;
    x = sky("..=0f990");
    due("letters(0, 3)", x.letters(0, 3), 0);
    due("letters(0, 0)", x.letters(0, 0), 3);
    due("letters(0, 4)", x.letters(0, 4), BAD);
    due("letters(0, -1)", x.letters(0, -1), BAD);
    due("letters(1, 1)", x.letters(1, 1), BAD);
    x = fallen();
    due("letters of a fallen one", x.letters(0, 2), 0);
  }

  private static void costs() {
    int[][] cost = {{0, 1, 2}, {0, 0, 3}, {0, 1, 2}, {0, 1, 2}, {0, 0, 3}, {0, 0, 1}};
    for (int kind = 0; kind < 6; kind++) for (int letters = 0; letters <= 3; letters++) for (int b = 0; b < 3; b++) {
      WaxWings x = sky("../../..=0" + "foblna".charAt(kind) + "991");
      x.letters(0, letters);
      x.beat(0, b);
      int more = b == 2 || b == 1 && (kind == 3 || kind == 5) ? letters : 0;
      dueFlyer(x, 0, kind, 1, b, 9 - cost[kind][b] - more);
      x = sky("../g./..=0" + "foblna".charAt(kind) + "991");
      x.letters(0, letters);
      x.beat(0, b);
      dueFlyer(x, 0, kind, 1, b, 9);
    }
  }

  private static void beats() {
    promise = 17;
    costs();
    WaxWings x = sky(">..>./...#./>....=0f991f990f992");
    due("UP to no HEIGHT", x.beat(2, 2), STATE);
    due("DOWN to no HEIGHT", x.beat(1, 0), STATE);
    due("beat(1, 1): two COLUMNS", x.beat(1, 1), 0);
    dueFlyer(x, 1, 0, 2, 0, 8, 0, 1);
    due("beat(1, 2): a ROCK", x.beat(1, 2), STATE);
    due("beat(1, 1)", x.beat(1, 1), 0);
    due("beat(1, 1): the last COLUMN at most; CLOG 3", x.beat(1, 1), 3);
    dueFlyer(x, 1, 0, 4, 0, 6, 0, 3, 0, 3);
    due("one who fell", x.beat(1, 2), STATE);
    due("beat(2, 1): over nothing", x.beat(2, 1), 0);
    due("beat(2, 1)", x.beat(2, 1), 0);
    due("beat(2, 1)", x.beat(2, 1), 0);
    due("one who is OVER", x.beat(2, 1), STATE);
    due("beat(3, 1)", x.beat(3, 1), BAD);
    due("beat(-1, 1)", x.beat(-1, 1), BAD);
    due("beat(0, 3)", x.beat(0, 3), BAD);
    due("beat(0, -1)", x.beat(0, -1), BAD);
    due("BEATS", x.count(4), 6);
    // by 1 ahead of 2 ahead of 3
    x = sky("..../..../s...=9f000f090f990");
    due("STRENGTH and HEAT", x.beat(0, 2), 1);
    dueFlyer(x, 0, 0, 1, 1, -2, 6, 0, 0, 1);
    due("HEAT", x.beat(1, 1), 2);
    x = sky("....=4f090f990");
    due("HEAT of 0 is not above a WAX of 0", x.beat(0, 1), 0);
    due("CLOG 2", x.beat(0, 1), 0);
    x.sun(5);
    due("HEAT ahead of CLOG", x.beat(0, 1), 2);
    // CLOUD, SPRAY
    x = sky("...../..cs./....s=6b991");
    due("beat", x.beat(0, 1), 0);
    dueFlyer(x, 0, 2, 1, 1, 8, 6, 0);
    due("a CLOUD", x.beat(0, 1), 0);
    dueFlyer(x, 0, 2, 2, 1, 7, 5, 0);
    x.sun(0);
    due("SPRAY", x.beat(0, 1), 0);
    dueFlyer(x, 0, 2, 3, 1, 6, 5, 1);
    due("SPRAY again", x.beat(0, 2), 0);
    dueFlyer(x, 0, 2, 4, 2, 4, 5, 2);
    x = sky("s../.../...=9n090");
    due("a NIGHT one", x.beat(0, 1), 0);
    dueFlyer(x, 0, 4, 1, 0, 9, 0, 1);
    due("UP", x.beat(0, 2), 0);
    dueFlyer(x, 0, 4, 2, 1, 6, 0, 0);
    x = sky("s.s=0f990");
    x.beat(0, 1);
    x.beat(0, 1);
    dueFlyer(x, 0, 0, 2, 0, 7, 0, 2);

    promise = 18;
    x = sky(".../.../...=5f991o992");
    x.beat(0, 2);
    x.beat(1, 1);
    x.beat(0, 0);
    x.letters(0, 3);
    x.sun(1);
    due("undo(4)", x.undo(4), BAD);
    due("undo(-1)", x.undo(-1), BAD);
    due("undo(3)", x.undo(3), 0);
    due("undo(1)", x.undo(1), 2);
    dueFlyer(x, 0, 0, 1, 2, 7, 3, 0, 3, 0);
    dueFlyer(x, 1, 1, 0, 2, 9, 0, 0, 0, 0);
    due("the SUN stays", x.count(3), 1);
    due("undo(0)", x.undo(0), 1);
    dueFlyer(x, 0, 0, 0, 1, 9, 0, 0, 3, 0);
    due("undo(0)", x.undo(0), 0);
    x = fallen();
    due("undo(0)", x.undo(0), 1);
    dueFlyer(x, 0, 0, 0, 1, 9, 0, 0, 0, 0);
    due("new: undo(0)", new WaxWings().undo(0), 0);

    promise = 19;
    x = sky("../../..=9f091n091f991n091");
    due("over()", x.over(), 0);
    due("asked()", x.asked(), 0);
    x.beat(0, 2);
    x.beat(1, 1);
    x.beat(2, 1);
    due("over()", x.over(), 6);
    due("asked()", x.asked(), 1);
    due("new: over()", new WaxWings().over(), 0);

    promise = 20;
    x = sky("..#./..../....=5f221f220f222");
    due("can(0)", x.can(0), 7);
    due("asked()", x.asked(), 4);
    due("can(1)", x.can(1), 6);
    due("asked(): just none", x.asked(), 0);
    due("can(2)", x.can(2), 3);
    due("asked()", x.asked(), 2);
    x.letters(1, 1);
    due("can(1)", x.can(1), 6);
    due("asked(): too weak for UP", x.asked(), 4);
    x.beat(0, 0);
    due("can(0): a ROCK", x.can(0), 4);
    due("can(3)", x.can(3), BAD);
    due("can(-1)", x.can(-1), BAD);
    x = fallen();
    due("can(0): fell", x.can(0), 0);
    due("asked()", x.asked(), 0);
    x = sky("../..=0f991");
    x.beat(0, 1);
    due("can(0): OVER", x.can(0), 0);

    promise = 21;
    x = sky(".../...=5f991");
    due("keep(0)", x.keep(0), 0);
    x.beat(0, 1);
    due("keep(2)", x.keep(2), 1);
    due("count(8)", x.count(8), 2);
    due("keep(3)", x.keep(3), BAD);
    due("keep(-1)", x.keep(-1), BAD);
    due("no COLUMNS", new WaxWings().keep(0), STATE);
    due("no COLUMNS", new WaxWings().keep(3), BAD);

    promise = 22;
    x.letters(0, 2);
    x.sun(7);
    x.beat(0, 1);
    due("on(2)", x.on(2), 1);
    dueFlyer(x, 0, 0, 1, 1, 8, 2, 0, 0, 0);
    due("SUN", x.count(3), 5);
    due("undo(0)", x.undo(0), 1);
    dueFlyer(x, 0, 0, 0, 1, 9, 0, 0, 0, 0);
    x.beat(0, 0);
    x.beat(0, 2);
    due("undo(1)", x.undo(1), 1);
    x.keep(1);
    x.undo(0);
    x.beat(0, 1);
    due("on(1)", x.on(1), 1);
    dueFlyer(x, 0, 0, 1, 0, 9, 1, 1, 0, 0);
    x.undo(0);
    x.letters(0, 3);
    x.beat(0, 0);
    x.undo(0);
    dueFlyer(x, 0, 0, 0, 1, 9, 0, 0, 3, 0);
    due("on(2) again", x.on(2), 1);
    due("on(0)", x.on(0), 0);
    due("BEATS", x.count(4), 0);
    due("on(3)", x.on(3), BAD);
    x = sky(".../...=5f991f991");
    dueFinding(x, 0, x.on(1), 1);
    // what was noted ahead of each BEAT is kept too
    x.beat(0, 1);
    x.keep(0);
    x.undo(0);
    x.beat(1, 0);
    due("on(0)", x.on(0), 1);
    due("undo(0)", x.undo(0), 1);
    dueFlyer(x, 0, 0, 0, 1, 9, 0, 0, 0, 0);
    dueFlyer(x, 1, 0, 0, 1, 9, 0, 0, 0, 0);
  }

  private static void ways() {
    promise = 23;
    WaxWings x = sky("...#/..../....=5f491f992");
    row(x, 0, 1, 2, 1);
    due("judge(0, 0): too hot", x.judge(0, 0), 1);
    due("asked()", x.asked(), 2);
    row(x, 1, 0, 1, 1, 2);
    due("judge(0, 1): a ROCK", x.judge(0, 1), 2);
    due("asked()", x.asked(), 0);
    row(x, 1, 0, 1, 2, 0);
    due("judge(0, 1): OVER", x.judge(0, 1), 3);
    due("asked()", x.asked(), 0);
    row(x, 1, 0, 1, 2);
    x.flyer(0, 3);
    due("judge(0, 1): all", x.judge(0, 1), 3);
    due("asked()", x.asked(), 0);
    x.row(1, 0);
    due("judge(0, 1): none", x.judge(0, 1), 0);
    dueFlyer(x, 0, 0, 0, 1, 9, 0, 0, 0, 0);
    due("judge(2, 0)", x.judge(2, 0), BAD);
    due("judge(0, 6)", x.judge(0, 6), BAD);
    dueFinding(x, 0, x.judge(0, 5), 1);
    row(x, 2, 1, 3);
    dueFinding(x, 0, x.judge(0, 2), 3);
    row(x, 2, -1);
    dueFinding(x, 1, x.judge(0, 2), 3);
    x = fallen();
    due("STATE ahead of NOTHING", x.judge(0, 0), STATE);
    due("BAD ahead of STATE", x.judge(0, -1), BAD);

    promise = 24;
    // columns 0..4, two heights; the wind at (1, 1) takes one on by two
    x = sky("...../.>...=0f991");
    due("soonest(0, 0)", x.soonest(0, 0), 3);
    dueRow(x, 0, 1, 0, 1);
    x.beat(0, 0);
    due("soonest(0, 0)", x.soonest(0, 0), 3);
    dueRow(x, 0, 1, 2, 0);
    due("soonest(1, 0)", x.soonest(1, 0), BAD);
    due("soonest(0, 6)", x.soonest(0, 6), BAD);
    x = sky(".#/.#=0f991");
    row(x, 0, 5);
    due("soonest: none", x.soonest(0, 0), NONE);
    dueRow(x, 0, 5);
    x = fallen();
    due("soonest: fell", x.soonest(0, 0), STATE);
    x = sky("../..=0f991");
    x.beat(0, 1);
    due("soonest: OVER", x.soonest(0, 3), 0);
    dueRow(x, 3);

    promise = 25;
    x = sky(".../.../...=0f952");
    due("lightest(0, 1)", x.lightest(0, 1), 5);
    dueRow(x, 1, 0, 0);
    x = sky("#../.g./...=0f951");
    due("lightest(0, 1)", x.lightest(0, 1), 4);
    dueRow(x, 1, 0, 1);
    x = sky("../..=9f001");
    due("lightest: none", x.lightest(0, 1), NONE);
    due("no ROW", x.at(1, 0), FINDING);
    due("lightest(0, 6)", x.lightest(0, 6), BAD);
    due("lightest(1, 0)", x.lightest(1, 0), BAD);
    due("lightest: fell", fallen().lightest(0, 0), STATE);

    promise = 26;
    x = sky(".../.../...=0f991f900f991");
    dueChance(x, "ways(0)", x.ways(0), 7, 1);
    dueChance(x, "ways(1)", x.ways(1), 0, 1);
    x.beat(2, 1);
    dueChance(x, "ways(2)", x.ways(2), 3, 1);
    x.beat(2, 1);
    dueChance(x, "ways(2): OVER", x.ways(2), 1, 1);
    due("ways(3)", x.ways(3), BAD);
    due("ways: fell", fallen().ways(0), STATE);
    // 517 rows of beats stay among the HEIGHTS; 16 of them clog
    x = sky("ggggggg/ggggggg/ggggggg/ggggggg/ggggggg=0f992");
    dueChance(x, "ways(0)", x.ways(0), 501, 1);

    promise = 27;
    x = sky("..#/.#./...=0f991");
    due("heights(0, 1)", x.heights(0, 1), 5);
    due("asked()", x.asked(), 0);
    due("heights(0, 2)", x.heights(0, 2), 6);
    due("asked()", x.asked(), 0);
    due("heights(0, 0): one's own", x.heights(0, 0), 0);
    x = sky("...#/.#.#/.#..=0f990");
    due("heights(0, 1)", x.heights(0, 1), 1);
    due("asked()", x.asked(), 1);
    due("heights(0, 2)", x.heights(0, 2), 2);
    due("asked()", x.asked(), 2);
    due("heights(0, 3)", x.heights(0, 3), 4);
    due("asked()", x.asked(), 4);
    due("heights(0, 4)", x.heights(0, 4), BAD);
    due("heights(0, -1)", x.heights(0, -1), BAD);
    due("heights(1, 0)", x.heights(1, 0), BAD);
    x.letters(0, 0);
    x = sky(">.../#...=0f990");
    due("skipped by a WIND", x.heights(0, 1), 0);
    due("heights(0, 2)", x.heights(0, 2), 3);
    x = sky(".#=0f990");
    due("no WAY", x.heights(0, 1), 0);
    due("asked()", x.asked(), 0);
    due("heights: fell", fallen().heights(0, 1), STATE);
    due("heights: fell, no COLUMN", fallen().heights(0, 3), BAD);

    promise = 28;
    x = sky(".../.../...=0f991");
    int[][] all = {{0, 1}, {0, 2}, {1, 0}, {1, 1}, {1, 2}, {2, 0}, {2, 1}};
    for (int n = 0; n < 7; n++) {
      due("nth(0, " + n + ", 4)", x.nth(0, n, 4), 2);
      dueRow(x, 4, all[n]);
    }
    dueFinding(x, 0, x.nth(0, 7, 4), 4);
    dueFinding(x, 1, x.nth(0, HIGHEST, 4), 4);
    dueRow(x, 4, 2, 1);
    due("nth(0, -1, 4)", x.nth(0, -1, 4), BAD);
    due("nth(1, 0, 4)", x.nth(1, 0, 4), BAD);
    due("nth(0, 0, 6)", x.nth(0, 0, 6), BAD);
    due("nth: fell", fallen().nth(0, 99, 0), STATE);
  }

  private static void howMuch() {
    promise = 29;
    // LEVEL twice at height 1 by a sun of 5: heat 2 and 4; DOWN: heat 1, then 2
    WaxWings x = sky(".../...=5f991b991n091");
    due("wax(0)", x.wax(0), 2);
    due("wax(1)", x.wax(1), 4);
    due("wax(2)", x.wax(2), 0);
    x.sun(9);
    due("wax(0)", x.wax(0), NONE);
    x.beat(2, 1);
    x.beat(2, 1);
    due("wax(2): OVER", x.wax(2), 0);
    x = sky("##/..=8b051");
    due("wax(0)", x.wax(0), NONE);
    x = sky("##/##/##/##/..=9f054");
    due("wax(0)", x.wax(0), 9);
    due("wax(3)", x.wax(3), BAD);
    due("wax: fell", fallen().wax(0), STATE);

    promise = 30;
    x = sky("#..#/#.../....=0f902");
    due("strength(0)", x.strength(0), 2);
    x = sky("..#/..#/#..=0a000l000");
    x.letters(0, 3);
    x.letters(1, 3);
    due("strength(0)", x.strength(0), 8);
    due("strength(1)", x.strength(1), 10);
    x = sky("......#/......#/......#/......#/.......=0o993");
    due("strength(0)", x.strength(0), 3);
    x = sky(".#=0f990");
    due("strength(0)", x.strength(0), NONE);
    due("strength(1)", x.strength(1), BAD);
    due("strength: fell", fallen().strength(0), STATE);

    promise = 31;
    x = sky(".#./...=0f940l930f910");
    due("most(0): UP, then DOWN", x.most(0), 2);
    due("most(1)", x.most(1), 1);
    due("most(2)", x.most(2), NONE);
    x.letters(0, 3);
    due("most(0) whatever one has", x.most(0), 2);
    due("most(3)", x.most(3), BAD);
    due("most: fell", fallen().most(0), STATE);
    x = sky("../..=0f901");
    due("most: DOWN COSTS nothing", x.most(0), 3);
    x = sky("##/..=0l911");
    due("most: with none alone", x.most(0), 0);

    promise = 32;
    x = sky(".../...=5f391b391n091f091");
    due("hottest(0): DOWN, LEVEL", x.hottest(0), 5);
    due("hottest(1)", x.hottest(1), 4);
    due("hottest(2)", x.hottest(2), 9);
    due("hottest(3)", x.hottest(3), 4);
    x.beat(0, 1);
    due("hottest(0) from there", x.hottest(0), 5);
    x = sky("##/##/##/##/..=9f094");
    due("hottest: with none", x.hottest(0), 0);
    x = sky(".#=0f990");
    due("hottest: none", x.hottest(0), NONE);
    due("hottest(-1)", x.hottest(-1), BAD);
    due("hottest: fell", fallen().hottest(0), STATE);
    due("SUN", x.count(3), 0);

    promise = 33;
    x = sky("#./..=9f311");
    due("only by night", x.kinds(0), 16);
    x.sun(4);
    due("kinds(0)", x.kinds(0), 63);
    x = sky("##/..=4f111");
    due("FIRST too hot", x.kinds(0), 59);
    x.letters(0, 1);
    due("LADEN too weak", x.kinds(0), 51);
    x = sky(".#/..=0f920");
    due("OLD too weak for UP", x.kinds(0), 45);
    due("kinds(1)", x.kinds(1), BAD);
    due("kinds: fell", fallen().kinds(0), STATE);
    x = sky(".#=0f990");
    due("kinds: none", x.kinds(0), 0);

    promise = 34;
    x = sky(".#/..=0f940f930f950f910");
    due("post(0, 0)", x.post(0, 0), 0);
    dueRow(x, 0, 0, 0, 0, 0);
    due("post(2, 0)", x.post(2, 0), 1);
    dueRow(x, 0, 0, 0, 2, 0);
    due("post(4, 0)", x.post(4, 0), 2);
    dueRow(x, 0, 0, 1, 3, 0);
    due("post(5, 0)", x.post(5, 0), 2);
    dueRow(x, 0, 2, 0, 3, 0);
    due("post(6, 0)", x.post(6, 0), 3);
    dueRow(x, 0, 2, 1, 3, 0);
    due("post(7, 0)", x.post(7, 0), NONE);
    dueRow(x, 0, 2, 1, 3, 0);
    due("post(13, 0)", x.post(13, 0), BAD);
    due("post(-1, 0)", x.post(-1, 0), BAD);
    due("post(0, 6)", x.post(0, 6), BAD);
    x.beat(3, 2);
    due("over()", x.over(), 0);
    due("post(1, 1): not to a fallen one", x.post(1, 1), 1);
    dueRow(x, 1, 0, 0, 1, 0);
    x.beat(0, 2);
    due("post(6, 1): an OVER one takes three", x.post(6, 1), 2);
    dueRow(x, 1, 3, 0, 3, 0);
    due("letters as they were", x.flyer(0, 6) + x.asked(), 1);
    x = sky("../..=0f991f991f991f991");
    due("post(12, 1)", x.post(12, 1), 4);
    dueRow(x, 1, 3, 3, 3, 3);
    due("no FLYERS", sky("..=0").post(0, 0), STATE);
    due("no FLYERS", new WaxWings().post(13, 0), BAD);
  }

  private static void gusts() {
    promise = 35;
    // a GUST behind the first BEAT alone: calm one is over, sunk one is not
    WaxWings x = sky("..#/.../...=0f912");
    row(x, 0, 0, 1);
    dueChance(x, "plan", x.plan(0, 0, 3), 3, 4);
    dueChance(x, "plan", x.plan(0, 0, 0), 1, 1);
    dueChance(x, "plan", x.plan(0, 0, 12), 0, 1);
    row(x, 1, 1, 1);
    dueChance(x, "plan", x.plan(0, 1, 3), 0, 1);
    row(x, 1, 1);
    dueChance(x, "too short a plan", x.plan(0, 1, 0), 0, 1);
    row(x, 1, 0, 1, 2, 2, 2, 2, 2, 2);
    dueChance(x, "it ends where one is OVER", x.plan(0, 1, 8), 1, 3);
    row(x, 1, 0, 1, 2, 2, 2, 2, 2, 2, 2);
    dueFinding(x, 0, x.plan(0, 1, 3), 5);
    row(x, 1, 0, 1, 2, 2, 2, 2, 2, 2, 3);
    dueFinding(x, 1, x.plan(0, 1, 3), 5);
    row(x, 1, 0, 3);
    dueFinding(x, 0, x.plan(0, 1, 3), 3);
    dueFinding(x, 0, x.plan(0, 5, 3), 1);
    due("plan(0, 0, 13)", x.plan(0, 0, 13), BAD);
    due("plan(0, 0, -1)", x.plan(0, 0, -1), BAD);
    due("plan(1, 0, 0)", x.plan(1, 0, 0), BAD);
    due("plan(0, 6, 0)", x.plan(0, 6, 0), BAD);
    due("plan: fell", fallen().plan(0, 5, 3), STATE);
    // none lower, a ROCK lower: no GUST; HEAT is of where the GUST takes one
    x = sky("...=0f990");
    row(x, 0, 1, 1);
    dueChance(x, "none lower", x.plan(0, 0, 12), 1, 1);
    x = sky(".#./..#/...=0f991");
    row(x, 0, 1, 2);
    dueChance(x, "a ROCK lower", x.plan(0, 0, 12), 1, 1);
    x = sky("..../..../....=3f092");
    row(x, 0, 1, 1, 1);
    dueChance(x, "cooler where one is taken to", x.plan(0, 0, 12), 1, 1);
    dueChance(x, "else too hot at once", x.plan(0, 0, 6), 1, 2);
    x = sky("../..=0f991");
    x.beat(0, 1);
    row(x, 0, 2);
    dueChance(x, "OVER", x.plan(0, 0, 5), 1, 1);
    // five GUSTS of 1 of 12, each one deadly: 11 of 12 to the 5th
    x = sky("......./......./.......=3f091");
    row(x, 0, 1, 1, 1, 1, 1, 1);
    dueChance(x, "cool at both heights", x.plan(0, 0, 0), 1, 1);
    x = sky("......./...s.../.......=3f092");
    row(x, 0, 1, 1, 1, 1, 1, 1);
    dueChance(x, "too hot", x.plan(0, 0, 0), 0, 1);
    x = sky("......#/......./.......=0n991");
    row(x, 0, 1, 1, 1, 1, 1, 1);
    dueChance(x, "a ROCK for those sunk", x.plan(0, 0, 1), 161051, 248832);

    promise = 36;
    x = sky("..#/.../...=0f912");
    dueChance(x, "odds(0, 3)", x.odds(0, 3), 3, 4);
    dueChance(x, "odds(0, 0)", x.odds(0, 0), 1, 1);
    dueChance(x, "odds(0, 12)", x.odds(0, 12), 0, 1);
    dueChance(x, "odds(0, 5)", x.odds(0, 5), 7, 12);
    x = sky("####/.#../...#=0f991");
    dueChance(x, "UP first, DOWN last", x.odds(0, 1), 1, 1);
    x = sky("##./#.#/#../...=0f903");
    dueChance(x, "only sunk one is over", x.odds(0, 2), 1, 6);
    x = sky("..#/.../...=0f912");
    dueChance(x, "odds(0, 5)", x.odds(0, 5), 7, 12);
    due("odds(0, 13)", x.odds(0, 13), BAD);
    due("odds(0, -1)", x.odds(0, -1), BAD);
    due("odds(1, 0)", x.odds(1, 0), BAD);
    due("odds: fell", fallen().odds(0, 3), STATE);
    due("upper() stays", x.upper(), 7);

    promise = 37;
    due("choice(0, 3): the first of alike ones", x.choice(0, 3), 0);
    due("choice(0, 12)", x.choice(0, 12), NONE);
    due("upper() stays", x.upper(), 7);
    x = sky("##./.../...=0f991");
    due("choice(0, 4)", x.choice(0, 4), 1);
    x = sky("##./##./...=0f992");
    due("choice(0, 4)", x.choice(0, 4), 1);
    due("choice(0, 0)", x.choice(0, 0), 1);
    x = sky(".#/..=0f990");
    due("choice(0, 4)", x.choice(0, 4), 2);
    x = sky("../..=0f991");
    x.beat(0, 1);
    due("OVER", x.choice(0, 4), NONE);
    due("choice(0, 13)", x.choice(0, 13), BAD);
    due("choice(1, 3)", x.choice(1, 3), BAD);
    due("choice: fell", fallen().choice(0, 3), STATE);
  }

  private static void boatsFeathersLots() {
    promise = 38;
    WaxWings x = sky(".......=0");
    due("boats(1, 0)", x.boats(1, 0), 3);
    dueRow(x, 0, 3);
    due("boats(2, 0)", x.boats(2, 0), 2);
    dueRow(x, 0, 0, 4);
    due("boats(3, 0)", x.boats(3, 0), 1);
    dueRow(x, 0, 0, 2, 5);
    due("boats(4, 0)", x.boats(4, 0), 1);
    dueRow(x, 0, 0, 1, 2, 5);
    due("boats(5, 0)", x.boats(5, 0), BAD);
    due("boats(0, 0)", x.boats(0, 0), BAD);
    due("boats(1, 6)", x.boats(1, 6), BAD);
    dueRow(x, 0, 0, 1, 2, 5);
    x = sky("..=0");
    due("boats(2, 0)", x.boats(2, 0), 0);
    dueRow(x, 0, 0, 1);
    due("boats(1, 0)", x.boats(1, 0), 1);
    dueRow(x, 0, 0);
    dueFinding(x, 0, x.boats(3, 0), 5);
    due("no COLUMNS", new WaxWings().boats(1, 0), STATE);
    due("no COLUMNS", new WaxWings().boats(5, 0), BAD);

    promise = 39;
    // at height 1 by a sun of 5 heat grows by 2; half of 7, cut, is 3
    x = sky("...../.....=5f791f091");
    row(x, 0, 1, 1, 1, 1);
    due("drip(0, 0)", x.drip(0, 0), 2);
    due("asked()", x.asked(), 4);
    due("drip(1, 0): also where one falls", x.drip(1, 0), 1);
    due("asked()", x.asked(), 2);
    row(x, 1, 1);
    x.flyer(0, 3);
    due("drip(0, 1)", x.drip(0, 1), NONE);
    due("asked() stays", x.asked(), 9);
    row(x, 1, 1, 2, 1, 1);
    due("it ends where a BEAT can't be", x.drip(0, 1), NONE);
    x = sky("...../.....=0f900f791");
    x.sun(0);
    row(x, 1, 2, 1, 1, 1);
    due("it ends where one falls", x.drip(0, 1), NONE);
    x.sun(5);
    row(x, 1, 1);
    x.beat(1, 1);
    due("drip(1, 1): one BEAT", x.drip(1, 1), 2);
    due("asked()", x.asked(), 4);
    x.row(1, 0);
    due("no BEATS", x.drip(0, 1), NONE);
    row(x, 1, 1, 5);
    dueFinding(x, x.findings(3), x.drip(0, 1), 3);
    dueFinding(x, 0, x.drip(0, 4), 1);
    due("drip(2, 0)", x.drip(2, 0), BAD);
    due("drip(0, 6)", x.drip(0, 6), BAD);
    due("drip: fell", fallen().drip(0, 5), STATE);

    promise = 40;
    // WAX 4, half 2: LEVEL, LEVEL 2, 4 (column 2); LEVEL, DOWN 2, 3 (column 2); DOWN, LEVEL 1, 2; DOWN, UP 1, 3
    x = sky(".../...=5f491");
    dueChance(x, "feathers(0, 4)", x.feathers(0, 4), 3, 1);
    due("asked()", x.asked(), 3);
    dueChance(x, "feathers(0, 0)", x.feathers(0, 0), 1, 1);
    due("asked()", x.asked(), 1);
    dueChance(x, "feathers(0, 6)", x.feathers(0, 6), 0, 1);
    due("asked()", x.asked(), 0);
    dueChance(x, "feathers(0, 5): one's own", x.feathers(0, 5), 0, 1);
    x = sky(".../...=5f391");
    dueChance(x, "feathers(0, 6)", x.feathers(0, 6), 1, 1);
    due("asked()", x.asked(), 1);
    due("feathers(0, 8)", x.feathers(0, 8), BAD);
    due("feathers(0, -1)", x.feathers(0, -1), BAD);
    due("feathers(1, 0)", x.feathers(1, 0), BAD);
    // OVER already: the empty WAY comes to no COLUMN, and no feathers are found by it, however hot one is
    x = sky("../../..=4f491n992");
    due("beat(0, 2)", x.beat(0, 2), 0);
    dueChance(x, "feathers(0, 0): OVER", x.feathers(0, 0), 1, 1);
    due("asked(): OVER", x.asked(), 0);
    x.flyer(0, 2);
    dueChance(x, "feathers(0, 2): OVER", x.feathers(0, 2), 0, 1);
    due("asked(): OVER, no WAY", x.asked(), 0);
    x.sun(9);
    dueChance(x, "feathers(0, 0): OVER", x.feathers(0, 0), 1, 1);
    due("asked(): OVER", x.asked(), 0);
    dueChance(x, "feathers(1, 0): another one", x.feathers(1, 0), 2, 1);
    due("asked(): another one", x.asked(), 6);
    x.sun(4);
    x.undo(0);
    dueChance(x, "feathers(0, 0): undone", x.feathers(0, 0), 3, 1);
    due("asked(): undone", x.asked(), 7);
    x = sky("../..=5f391");
    due("beat(0, 1)", x.beat(0, 1), 0);
    dueFlyer(x, 0, 0, 1, 1, 8, 2);
    dueChance(x, "feathers(0, 0): OVER, hot", x.feathers(0, 0), 1, 1);
    due("asked(): OVER, hot", x.asked(), 0);
    dueChance(x, "feathers(0, 2): OVER, hot", x.feathers(0, 2), 0, 1);
    due("feathers(0, 4): OVER", x.feathers(0, 4), BAD);
    due("feathers: fell", fallen().feathers(0, 0), STATE);
    due("feathers: fell, no COLUMN", fallen().feathers(0, 8), BAD);

    promise = 41;
    // 48271, 182605794, 1291394886, 1914720637, 2078669041, 407355683: LEVEL, DOWN, LEVEL, UP, LEVEL, UP
    x = sky("......./......./.......=0f991");
    due("lots(0, 9, 1)", x.lots(0, 9, 1), 6);
    dueFlyer(x, 0, 0, 6, 2, 2, 0, 0, 0, 0);
    due("BEATS", x.count(4), 6);
    due("undo(2)", x.undo(2), 4);
    dueFlyer(x, 0, 0, 2, 0, 8, 0, 1, 0, 0);
    due("undo(0)", x.undo(0), 2);
    due("lots(0, 3, 1)", x.lots(0, 3, 1), 3);
    dueFlyer(x, 0, 0, 3, 0, 7, 0, 2, 0, 0);
    due("lots(0, 0, 1)", x.lots(0, 0, 1), BAD);
    due("lots(0, 10, 1)", x.lots(0, 10, 1), BAD);
    due("lots(0, 1, 0)", x.lots(0, 1, 0), BAD);
    due("lots(0, 1, HIGHEST)", x.lots(0, 1, HIGHEST), BAD);
    due("lots(0, 1, -1)", x.lots(0, 1, -1), BAD);
    due("lots(1, 1, 1)", x.lots(1, 1, 1), BAD);
    due("lots: fell", fallen().lots(0, 1, 1), STATE);
    x = sky("../..=0f991");
    x.beat(0, 1);
    due("lots: OVER", x.lots(0, 9, 2147483646), 0);
    x = sky(".#=0f990");
    due("lots: can do none", x.lots(0, 9, 5), 0);
    // 48271 times 2147483646 leaves 2147435376, even, divided by 3 too: of three the first one, DOWN
    x = sky("../../..=0f991");
    due("lots(0, 1, 2147483646)", x.lots(0, 1, 2147483646), 1);
    dueFlyer(x, 0, 0, 1, 0, 9);
    x = sky("....=9f090");
    due("lots: till one falls", x.lots(0, 3, 7), 1);
  }

  private static void whatIsTold() {
    promise = 42;
    WaxWings x = sky("..../.c..=9f091n991");
    due("asked()", x.asked(), 0);
    row(x, 0, 4, 6);
    x.lay(0, 0, 8);
    due("lay: asked()", x.asked(), 4);
    x.at(0, 1);
    due("at: asked()", x.asked(), 6);
    x.mean(0);
    due("mean: asked()", x.asked(), 7);
    x.flyer(1, 3);
    due("flyer: asked()", x.asked(), 9);
    x.at(0, 9);
    x.mean(9);
    x.flyer(9, 0);
    x.can(9);
    x.judge(0, 9);
    x.heights(0, 9);
    x.drip(0, 9);
    x.feathers(0, -1);
    x.soonest(1, 3);
    x.digest();
    x.count(0);
    x.mark(1, 1);
    due("asked() stays", x.asked(), 9);
    x.can(0);
    due("can: asked()", x.asked(), 1);
    x.over();
    due("over: asked()", x.asked(), 0);

    promise = 43;
    x = sky("..#/.../...=0f912");
    due("upper()", x.upper(), 0);
    due("lower()", x.lower(), 1);
    x.odds(0, 5);
    x.odds(0, 13);
    x.ways(9);
    x.soonest(0, 0);
    due("upper()", x.upper(), 7);
    promise = 44;
    due("lower()", x.lower(), 12);
    x.ways(0);
    due("lower()", x.lower(), 1);

    promise = 45;
    x = sky("....../......=8o990n991f991l990");
    x.row(3, 1);
    x.row(4, 1);
    x.text(2, 2);
    x.beat(0, 1);
    x.beat(1, 1);
    x.keep(2);
    int[] counts = {4, 6, 2, 8, 2, 2, 2, 2, 1};
    for (int what = 0; what < 9; what++) due("count(" + what + ")", x.count(what), counts[what]);
    due("count(9)", x.count(9), BAD);
    due("count(-1)", x.count(-1), BAD);

    promise = 46;
    x = new WaxWings();
    due("finding()", x.finding(), 0);
    x.at(0, 0);
    due("finding()", x.finding(), 1);
    x.row(0, -1);
    due("finding()", x.finding(), 5);
    x.row(0, 0);
    x.row(9, 0);
    due("finding() stays", x.finding(), 5);
    x.mean(0);
    due("finding()", x.finding(), 4);

    promise = 47;
    x.mean(0);
    int[] often = {1, 0, 0, 2, 1};
    for (int f = 1; f <= 5; f++) due("findings(" + f + ")", x.findings(f), often[f - 1]);
    due("findings(0)", x.findings(0), BAD);
    due("findings(6)", x.findings(6), BAD);
    due("findings(-1)", x.findings(-1), BAD);

    promise = 48;
    x = new WaxWings();
    due("digest()", x.digest(), over(0, 0, 0, 0, 0, 0, 0, 0, 0, -1, -1, -1, -1, -1, -1, -1, -1, -1, -1, -1, -1, -1));
    text(x, 1, "../..=5f991");
    x.sky(1);
    x.text(1, 2);
    x.put(1, 1, 255);
    row(x, 2, 7, -8);
    x.letters(0, 1);
    x.keep(0);
    x.beat(0, 1);
    x.keep(2);
    long want = over(1, 2, 2, 5, 1, 0, 1, 1, 2, 0, 1, 1, 8, 2, 0, 1, 0, 0, -1, 1, -1, -1, 2, 7, -8, -1, -1, -1, -1, 2, 32, -1, -1, -1);
    due("digest()", x.digest(), want);
    x.beat(0, 1);
    x.at(0, 0);
    due("digest() behind refusals", x.digest(), want);
  }

  private static long over(long... all) {
    long h = 17;
    for (long v : all) h = 31 * h + v;
    return h;
  }

  public static void main(String[] args) {
    rowsAndTexts();
    skies();
    beats();
    ways();
    howMuch();
    gusts();
    boatsFeathersLots();
    whatIsTold();
    System.out.println(wrong == 0 ? asked + " answers are as due" : wrong + " of " + asked + " answers are not as due");
    if (wrong != 0) System.exit(1);
  }
}
