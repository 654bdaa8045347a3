/** Boundary cases of SKIES and what there is in them: promises 10 to 16, each sentence by a test of its own. */
public final class SkyBoundsTest extends Due {
  private static final String SIGNS = ".csg>#", LETTERS = "foblna";
  private static final String GREATEST = "......./......./......./......./.......=9f994o994b994l994";

  private static void fault(String s, int want) {
    WaxWings x = fresh();
    text(x, 0, s);
    due("fault of '" + s + "'", x.fault(0), want);
    due("sky by '" + s + "'", x.sky(0) < 0 ? x.sky(0) : 0, want == NONE ? 0 : STATE);
  }

  private interface FaultBy { int place(int v); }

  /** Every byte at one place of a text; an object is used for a quarter of them, as it has 512 calls. */
  private static void everyByte(String ahead, String behind, FaultBy want) {
    WaxWings x = null;
    for (int v = -128; v < 128; v++) {
      if (v % 64 == 0) {
        x = fresh();
        text(x, 0, ahead + "?" + behind);
      }
      x.put(0, ahead.length(), v);
      due("fault of '" + ahead + "(" + v + ")" + behind + "'", x.fault(0), want.place(v));
    }
  }

  /** The signs of well go on at a place of a text, all other bytes are a FAULT there. */
  private static void everyByte(String ahead, String well, String behind) {
    everyByte(ahead, behind, v -> v > 0 && well.indexOf((char) v) >= 0 ? NONE : ahead.length());
  }

  private static void blanks() {
    test(10, "blanks ahead, behind as many as wanted", () -> {
      for (int n : new int[] {0, 1, 2, 10, 76}) {
        fault(" ".repeat(n) + "..=0", NONE);
        fault("..=0" + " ".repeat(n), NONE);
      }
      fault(" ".repeat(38) + "..=0" + " ".repeat(38), NONE);
      fault(" ".repeat(80 - GREATEST.length()) + GREATEST, NONE);
      fault(GREATEST + " ".repeat(80 - GREATEST.length()), NONE);
    });
    test(10, "none within", () -> {
      fault(". .=0", 1);
      fault(".. /..=0", 2);
      fault("../ ..=0", 3);
      fault(".. =0", 2);
      fault("..= 0", 3);
      fault("..=0f 990", 5);
      fault("..=0f9 90", 6);
      fault("..=0f99 0", 7);
      fault("  . .=0", 3);
    });
    test(10, "a blank where one of these is due, also if blanks alone follow", () -> {
      fault(".  ", 1);
      fault("..  ", 2);
      fault("../  ", 3);
      fault("../.  ", 4);
      fault("../..  ", 5);
      fault("..=  ", 3);
      fault("..=0f  ", 5);
      fault("..=0f9  ", 6);
      fault("..=0f99  ", 7);
      fault("..=0f990  ", NONE);
    });
    test(10, "the TEXT's size, if there are blanks alone", () -> {
      for (int n : new int[] {0, 1, 2, 79, 80}) fault(" ".repeat(n), n);
    });
    test(10, "behind blanks behind the SUN, a FLYER anything else: its place", () -> {
      fault("..=0 f990", 5);
      fault("..=0   =", 7);
      fault("..=0f990 f990", 9);
      fault("..=0f990   .", 11);
      fault(" ..=0 \u0000", 6);
      everyByte("..=0 ", " ", "");
      everyByte("..=0f990 ", " ", "");
      everyByte("..=0f990f990f990f990", " ", "");
    });
  }

  private static void ends() {
    test(10, "the TEXT's size, if its end comes too early", () -> {
      String s = "..c/#../.>.=7n990b012";
      int[] want = new int[s.length() + 1];
      for (int n = 0; n <= s.length(); n++) want[n] = n;
      want[13] = want[17] = want[21] = NONE;
      for (int n = 0; n <= s.length(); n++) fault(s.substring(0, n), want[n]);
    });
    test(10, "the TEXT's size, of a full TEXT", () -> {
      String lead = " ".repeat(23);
      fault(lead + GREATEST, NONE);
      fault(" " + lead + GREATEST.substring(0, 56), 80);
      fault(" ".repeat(79) + ".", 80);
      fault(" ".repeat(77) + "..=", 80);
      fault(" ".repeat(76) + "..=5", NONE);
      fault(" ".repeat(73) + "..=5f99", 80);
      fault(" ".repeat(79) + "x", 79);
    });
    test(10, "a TEXT of none", () -> {
      WaxWings x = fresh();
      x.text(0, 0);
      due(x, "fault(0)", 0);
      due(x, "sky(0)", STATE);
    });
  }

  private static void lines() {
    test(10, "signs of air, a sign that is none such: its place", () -> {
      everyByte(".", SIGNS, "=0");
      everyByte("../.", SIGNS, "=0");
      everyByte("", SIGNS + " ", "..=0");
      everyByte("../", SIGNS, ".=0");
    });
    test(10, "1 to 5 lines", () -> {
      for (int n = 1; n <= 5; n++) fault(("/.#").repeat(n).substring(1) + "=0", NONE);
      fault("=0", 0);
      fault("  =0", 2);
      fault("/..=0", 0);
    });
    test(10, "a sixth line: its place", () -> {
      fault("../../../../../..=0", 14);
      fault("../../../../../", 14);
      fault("  ......./......./......./......./......./.......=0", 41);
    });
    test(10, "2 to 7 COLUMNS each", () -> {
      for (int n = 2; n <= 7; n++) fault(".".repeat(n) + "=0", NONE);
      for (int n = 2; n <= 7; n++) fault(".".repeat(n) + "/" + "#".repeat(n) + "=0", NONE);
      fault(".=0", 1);
      fault("./.=0", 1);
      fault("........=0", 7);
      fault("........", 7);
      fault("...................", 7);
    });
    test(10, "all alike long: a line that is too long", () -> {
      fault("../...=0", 5);
      fault("../../...=0", 8);
      fault("....../.......=0", 13);
      fault("......./........=0", 15);
    });
    test(10, "all alike long: a line that is too short", () -> {
      fault(".../..=0", 6);
      fault(".../../...=0", 6);
      fault("..//..=0", 3);
      fault("../=0", 3);
      fault("......./......=0", 14);
      fault(".../.../.=0", 9);
    });
    test(10, "then =", () -> {
      // behind a whole line a / may go on too, and the end of the line's own signs is due nothing else
      everyByte("......./.......", "5", v -> v == '=' ? NONE : v == '/' ? 16 : 15);
      everyByte("......./......./......./......./.......", "=", "5");
    });
  }

  private static void sunAndFlyers() {
    test(10, "the SUN (0 .. 9, one figure)", () -> {
      everyByte("..=", "0123456789", "");
      fault("..=10", 4);
      fault("..=-1", 3);
      fault("..=f990", 3);
    });
    test(10, "a letter that is none such: its place", () -> {
      // a blank may be there, but then no figure behind it
      for (String ahead : new String[] {"..=0", "..=0f990", "..=0f990o990", "..=0f990o990b990"}) {
        int place = ahead.length();
        everyByte(ahead, "990", v -> v == ' ' ? place + 1 : v > 0 && LETTERS.indexOf((char) v) >= 0 ? NONE : place);
      }
    });
    test(10, "the WAX (0 .. 9), a figure that is none such: its place", () -> everyByte("..=0f", "0123456789", "90"));
    test(10, "the STRENGTH (0 .. 9), a figure that is none such: its place", () -> everyByte("..=0o9", "0123456789", "0"));
    test(10, "the HEIGHT, a figure that is none such: its place", () -> {
      String lines = "..";
      for (int n = 1; n <= 5; n++) {
        everyByte(lines + "=0b99", "01234".substring(0, n), "");
        lines += "/..";
      }
    });
    test(10, "the HEIGHT (in COLUMN 0, no ROCK): its place", () -> {
      everyByte("#./../#.=0l99", "1", "");
      everyByte("#c/s#/g./#>/>#=0l99", "124", "");
      fault(".#/.#=0l991", NONE);
      fault("../#.=1f110f111f110", 14);
      fault("  #.=1a110", 9);
    });
    test(10, "4 FLYERS at most; a fifth one: the letter", () -> {
      for (int n = 0; n <= 4; n++) fault("..=5" + "n090".repeat(n), NONE);
      fault("..=5" + "n090".repeat(5), 20);
      fault("..=5" + "n090".repeat(4) + "n", 20);
      fault(GREATEST + "f990", 57);
      fault(" " + GREATEST + "a", 58);
    });
    test(10, "BAD", () -> bad(Due::rich, "fault(-1)", "fault(4)", "fault(MIN)", "fault(MAX)"));
    test(10, "NOTHING", () -> found(NOTHING, Due::rich, "fault(3)"));
    test(10, "a FAULT that is asked for changes nothing", () -> {
      none(Due::rich, "fault(0)");
      refused(Due::rich, 11, 0, "fault(1)");
      refused(Due::rich, 0, 0, "fault(2)");
      refused(() -> run(rich(), "text(3, 80)"), 80, 0, "fault(3)");
    });
  }

  private static void sky() {
    test(11, "a SKY without FLYERS", () -> {
      WaxWings x = sky("../..=9");
      due(x, "sky(0)", 0);
      int[] counts = {0, 2, 2, 9, 0, 0, 0, 1, 0};
      for (int what = 0; what <= 8; what++) due(x, "count(" + what + ")", counts[what]);
      bad(Due::bare, "flyer(0, 0)", "mark(0, 1)", "letters(0, 0)", "beat(0, 0)", "can(0)", "judge(0, 0)", "soonest(0, 0)",
          "lightest(0, 0)", "ways(0)", "heights(0, 0)", "nth(0, 0, 0)", "wax(0)", "strength(0)", "most(0)", "hottest(0)",
          "kinds(0)", "plan(0, 0, 0)", "odds(0, 0)", "choice(0, 0)", "drip(0, 0)", "feathers(0, 0)", "lots(0, 1, 1)");
    });
    test(11, "a SKY with four FLYERS, as they come", () -> {
      WaxWings x = sky(GREATEST);
      due(x, "sky(0)", 4);
      int[] counts = {4, 7, 5, 9, 0, 1, 0, 1, 0};
      for (int what = 0; what <= 8; what++) due(x, "count(" + what + ")", counts[what]);
      for (int i = 0; i < 4; i++) dueFlyer(x, i, i, 0, 4, 9, 0, 0, 0, 0);
      bad(() -> sky(GREATEST), "flyer(4, 0)", "letters(4, 0)", "beat(4, 1)");
      x = sky("../..=0a120n341b560");
      dueFlyer(x, 0, 5, 0, 0, 2, 0, 0, 0, 0);
      dueFlyer(x, 1, 4, 0, 1, 4, 0, 0, 0, 0);
      dueFlyer(x, 2, 2, 0, 0, 6, 0, 0, 0, 0);
    });
    test(11, "anew: no LETTERS, no BEATS; kept SKIES go", () -> {
      WaxWings x = rich();
      due(x, "sky(0)", 4);
      int[] counts = {4, 5, 3, 5, 0, 1, 5, 3, 0};
      for (int what = 0; what <= 8; what++) due(x, "count(" + what + ")", counts[what]);
      dueFlyer(x, 0, 0, 0, 1, 9, 0, 0, 0, 0);
      dueFlyer(x, 1, 4, 0, 1, 9, 0, 0, 0, 0);
      dueFlyer(x, 2, 2, 0, 0, 9, 0, 0, 0, 0);
      dueFlyer(x, 3, 5, 0, 0, 6, 0, 0, 0, 0);
      due(x, "undo(0)", 0);
      due(x, "undo(1)", BAD);
      for (int k = 0; k < 3; k++) due(x, "on(" + k + ")", FINDING);
    });
    test(11, "ROWS, TEXTS and what was told stay", () -> {
      WaxWings x = rich();
      int findings = x.findings(NOTHING);
      due(x, "sky(0)", 4, 4321);
      due(x, "upper()", 7);
      due(x, "lower()", 12);
      due(x, "finding()", SIZE);
      due(x, "findings(1)", findings);
      due(x, "fault(1)", 11);
      dueRow(x, 2, 2, 0);
    });
    test(11, "nothing of a greater SKY is left in a lesser one", () -> {
      WaxWings x = rich();
      text(x, 3, "#./..=0o111");
      due(x, "sky(3)", 1);
      bad(() -> { WaxWings y = rich(); text(y, 3, "#./..=0o111"); y.sky(3); return y; },
          "flyer(1, 0)", "air(2, 0)", "air(0, 2)", "heights(0, 2)", "feathers(0, 4)", "beat(1, 1)");
      due(x, "air(0, 0)", 5);
      due(x, "air(1, 1)", 0);
      due(x, "over()", 0, 0);
      due(x, "can(0)", 3);
      due(x, "boats(3, 0)", FINDING);
    });
    test(11, "nor FLYERS of the one ahead in one without", () -> {
      WaxWings x = sky("..=0f990o990n990o990");
      text(x, 1, "..=0f990");
      text(x, 2, "..=0");
      due(x, "count(5)", 3);
      due(x, "sky(1)", 1);
      due(x, "count(5)", 0);
      due(x, "sky(2)", 0);
      due(x, "count(0)", 0);
      due(x, "over()", 0, 0);
      due(x, "post(0, 0)", STATE);
      due(x, "sky(0)", 4);
      due(x, "count(5)", 3);
    });
    test(11, "blanks ahead do not shift what there is", () -> {
      WaxWings x = sky("    c#/sg=8n031  ");
      due(x, "air(0, 0)", 1);
      due(x, "air(1, 0)", 5);
      due(x, "air(0, 1)", 2);
      due(x, "air(1, 1)", 3);
      due(x, "count(3)", 8);
      dueFlyer(x, 0, 4, 0, 1, 3, 0, 0, 0, 0);
    });
    test(11, "a TEXT that changes then does not change the SKY", () -> {
      WaxWings x = sky("../..=3f991");
      run(x, "put(0, 0, 35)", "put(0, 6, 57)", "text(0, 0)");
      due(x, "air(0, 0)", 0);
      due(x, "count(3)", 3);
      due(x, "count(0)", 1);
    });
    test(11, "BAD", () -> bad(Due::rich, "sky(-1)", "sky(4)", "sky(MIN)", "sky(MAX)"));
    test(11, "NOTHING", () -> found(NOTHING, Due::rich, "sky(3)"));
    test(11, "STATE: a FAULT (STATE behind NOTHING)", () -> {
      state(Due::rich, "sky(1)", "sky(2)");
      state(() -> run(rich(), "text(3, 80)"), "sky(3)");
      state(() -> { WaxWings x = fresh(); text(x, 0, "..=0f99"); return x; }, "sky(0)");
    });
  }

  private static void flyer() {
    test(12, "what it tells, 0 to 7", () -> {
      WaxWings x = rich();
      dueFlyer(x, 0, 0, 2, 0, 8, 4, 1, 1, 0);
      dueFlyer(x, 1, 4, 4, 1, 6, 0, 0, 0, 0);
      dueFlyer(x, 2, 2, 1, 1, 7, 4, 0, 0, 2);
      dueFlyer(x, 3, 5, 0, 0, 6, 0, 0, 1, 0);
    });
    test(12, "the KIND, by each letter", () -> {
      for (int kind = 0; kind < 6; kind++) dueFlyer(sky("..=0" + LETTERS.charAt(kind) + "000"), 0, kind, 0, 0, 0, 0, 0, 0, 0);
    });
    test(12, "STRENGTH left, below 0 where one FELL by it", () -> {
      WaxWings x = sky("../..=0f910");
      x.letters(0, 3);
      due(x, "beat(0, 2)", 1);
      dueFlyer(x, 0, 0, 1, 1, -4, 0, 0, 3, 1);
    });
    test(12, "by what one FELL: 1, 2, 3", () -> {
      WaxWings x = sky("..../....=4f900f091f990");
      run(x, "beat(0, 1)", "beat(1, 1)", "beat(2, 1)", "beat(2, 1)", "beat(2, 1)");
      for (int i = 0; i < 3; i++) due(x, "flyer(" + i + ", 7)", 1, i + 1);
    });
    test(12, "BAD", () -> bad(Due::rich, "flyer(-1, 0)", "flyer(4, 0)", "flyer(MIN, 0)", "flyer(MAX, 0)", "flyer(0, -1)", "flyer(0, 8)",
        "flyer(0, MIN)", "flyer(0, MAX)", "flyer(4, 8)"));
    test(12, "BAD: no FLYERS", () -> {
      bad(Due::fresh, "flyer(0, 0)", "flyer(-1, 0)");
      bad(Due::bare, "flyer(0, 0)");
    });
  }

  private static void mark() {
    test(13, "a FLYER that IS of a KIND; UNLIKE", () -> {
      // what one of each KIND tells as one of KINDS 1 to 5; -3: UNLIKE
      int[][] want = {{-3, -3, -3, -3, -3}, {3, -3, -3, -3, -3}, {-3, 4, -3, -3, -3}, {-3, -3, 1, -3, -3},
          {3, -3, -3, 2, -3}, {-3, -3, 0, -3, 0}};
      for (int kind = 0; kind < 6; kind++) for (int as = 1; as <= 5; as++) {
        String s = ".../...=5" + LETTERS.charAt(kind) + "990";
        refused(() -> sky(s), want[kind][as - 1], want[kind][as - 1] == FINDING ? UNLIKE : 0, "mark(0, " + as + ")");
      }
    });
    test(13, "BAD: also KIND 0", () -> {
      bad(Due::rich, "mark(0, 0)", "mark(1, 0)", "mark(3, 0)");
      bad(Due::rich, "mark(1, 6)", "mark(1, -1)", "mark(1, MIN)", "mark(1, MAX)", "mark(-1, 1)", "mark(4, 1)", "mark(MIN, 1)",
          "mark(MAX, 1)", "mark(4, 0)");
      bad(Due::fresh, "mark(0, 1)");
      bad(Due::bare, "mark(0, 1)");
    });
    test(13, "an OLD one (NIGHT, too): what UP COSTS now (no THERMAL)", () -> {
      WaxWings x = sky("g./..=9o990n990");
      for (int v = 0; v <= 3; v++) for (int i = 0; i < 2; i++) {
        x.letters(i, v);
        due(x, "mark(" + i + ", 1)", 3 + v);
      }
    });
    test(13, "a FIRST one: HEAT at the greatest HEIGHT (no CLOUD)", () -> {
      WaxWings x = sky("cc=3b990");
      int[] low = {0, 0, 0, 0, 0, 2, 4, 6, 8, 10};
      for (int v = 0; v <= 9; v++) { x.sun(v); due(x, "mark(0, 2)", low[v]); }
      x = sky("../../../../cc=0b990");
      int[] high = {0, 2, 4, 6, 8, 10, 12, 14, 16, 18};
      for (int v = 0; v <= 9; v++) { x.sun(v); due(x, "mark(0, 2)", high[v]); }
    });
    test(13, "a LADEN one (ABREAST, too): what LEVEL COSTS now (no THERMAL)", () -> {
      WaxWings x = sky("g./..=9l990a990");
      for (int v = 0; v <= 3; v++) {
        x.letters(0, v);
        x.letters(1, v);
        due(x, "mark(0, 3)", 1 + v);
        due(x, "mark(1, 3)", v);
      }
    });
    test(13, "a NIGHT one: how many COLUMNS there are yet ahead", () -> {
      WaxWings x = sky("......./..>..../.......=9n991");
      due(x, "mark(0, 4)", 6);
      x.beat(0, 1);
      due(x, "mark(0, 4)", 5);
      x.beat(0, 1);
      due(x, "mark(0, 4)", 4);
      x.beat(0, 1);
      due(x, "mark(0, 4)", 2);
      x.beat(0, 1);
      x.beat(0, 1);
      due(x, "mark(0, 4)", 0);
      due(sky("..=9n990"), "mark(0, 4)", 1);
    });
    test(13, "an ABREAST one: how many others are in its COLUMN", () -> {
      WaxWings x = sky(".../...=0a991f991a990n991");
      due(x, "mark(0, 5)", 3);
      due(x, "mark(2, 5)", 3);
      x.beat(0, 1);
      due(x, "mark(0, 5)", 0);
      due(x, "mark(2, 5)", 2);
      x.beat(1, 0);
      due(x, "mark(0, 5)", 1);
      x.undo(0);
      due(x, "mark(0, 5)", 3);
      due(sky("..=0a990"), "mark(0, 5)", 0);
    });
    test(13, "an ABREAST one: others in its COLUMN who FELL, are OVER, are at another HEIGHT too", () -> {
      WaxWings x = sky(".../.../...=9a991f090n092");
      x.beat(0, 0);
      due(x, "mark(0, 5)", 0);
      due(x, "beat(1, 1)", 2);
      due(x, "mark(0, 5)", 1);
      due(x, "beat(2, 1)", 0);
      due(x, "mark(0, 5)", 2);
      due(x, "beat(2, 1)", 0);
      due(x, "mark(0, 5)", 1);
      x.sun(0);
      due(x, "beat(0, 1)", 0);
      due(x, "over()", 5, 2);
      due(x, "mark(0, 5)", 1);
    });
    test(13, "also of one who FELL, is OVER", () -> {
      WaxWings x = rich();
      due(x, "mark(1, 1)", 3);
      due(x, "mark(1, 4)", 0);
      due(x, "mark(2, 2)", 8);
    });
    test(13, "it changes nothing", () -> {
      refused(Due::rich, 3, 0, "mark(1, 1)");
      refused(Due::rich, 8, 0, "mark(2, 2)");
      refused(Due::rich, 1, 0, "mark(3, 3)");
    });
  }

  private static void airSunLetters() {
    test(14, "what there is in a COLUMN at a HEIGHT", () -> {
      WaxWings x = sky("......./.csg>#./#....../......./c.....>=0");
      for (int n = 0; n < 6; n++) due(x, "air(" + n + ", 1)", n);
      due(x, "air(0, 0)", 0);
      due(x, "air(6, 0)", 0);
      due(x, "air(0, 2)", 5);
      due(x, "air(0, 4)", 1);
      due(x, "air(6, 4)", 4);
    });
    test(14, "BAD", () -> {
      bad(Due::rich, "air(-1, 0)", "air(5, 0)", "air(MIN, 0)", "air(MAX, 0)", "air(0, -1)", "air(0, 3)", "air(0, MIN)", "air(0, MAX)",
          "air(-1, -1)", "air(5, 3)", "air(-1, 1)", "air(5, 1)");
      bad(() -> sky(GREATEST), "air(7, 0)", "air(0, 5)", "air(7, 4)", "air(-1, 4)");
      bad(Due::fresh, "air(0, 0)");
    });
    test(15, "the SUN is v (0 .. 9): what it was", () -> {
      WaxWings x = sky("..=4");
      int was = 4;
      for (int v : new int[] {0, 9, 9, 1, 8}) {
        due(x, "sun(" + v + ")", was);
        due(x, "count(3)", v);
        was = v;
      }
    });
    test(15, "BAD", () -> bad(Due::rich, "sun(-1)", "sun(10)", "sun(MIN)", "sun(MAX)"));
    test(15, "STATE: no COLUMNS", () -> state(Due::fresh, "sun(0)", "sun(9)"));
    test(15, "BAD ahead of STATE", () -> bad(Due::fresh, "sun(-1)", "sun(10)"));
    test(15, "HEAT grows by the SUN that is now", () -> {
      WaxWings x = sky(".../...=9f991");
      x.sun(4);
      due(x, "beat(0, 1)", 0);
      x.sun(6);
      due(x, "beat(0, 1)", 0);
      due(x, "flyer(0, 4)", 1, 4);
    });
    test(16, "LETTERS are v (0 .. 3): how many there were", () -> {
      WaxWings x = rich();
      due(x, "letters(0, 3)", 1);
      due(x, "letters(0, 0)", 3);
      due(x, "letters(0, 0)", 0);
      due(x, "letters(3, 2)", 1);
      due(x, "flyer(3, 6)", 1, 2);
      due(x, "flyer(0, 6)", 1, 0);
    });
    test(16, "also of one who FELL, is OVER", () -> {
      WaxWings x = rich();
      due(x, "letters(1, 3)", 0);
      due(x, "letters(2, 1)", 0);
      due(x, "letters(2, 2)", 1);
    });
    test(16, "BAD", () -> {
      bad(Due::rich, "letters(0, -1)", "letters(0, 4)", "letters(0, MIN)", "letters(0, MAX)", "letters(-1, 1)", "letters(4, 1)",
          "letters(MIN, 1)", "letters(MAX, 1)");
      bad(Due::bare, "letters(0, 1)");
    });
  }

  static int wrong() {
    blanks();
    ends();
    lines();
    sunAndFlyers();
    sky();
    flyer();
    mark();
    airSunLetters();
    return wrong(10, 16);
  }

  public static void main(String[] args) {
    if (wrong() != 0) System.exit(1);
  }
}
