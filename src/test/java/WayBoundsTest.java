/** Boundary cases of WAYS and with how much there is one: promises 23 to 34, each sentence by a test of its own. */
public final class WayBoundsTest extends Due {
  /** One way up, LEVEL twice, then UP four times. */
  private static final String STAIRS = "...####/###.###/####.##/#####.#/######.=0";

  private static WaxWings withRow(WaxWings x, int r, int... v) {
    row(x, r, v);
    return x;
  }

  /** What a call told by asked() is laid aside; else it has changed nothing. */
  private static void dueAside(String call) {
    WaxWings x = rich();
    call(x, call);
    run(x, "lay(4, 1, 4321)", "lay(4, 1, 0)");
    dueAlike(x, rich(), call);
  }

  /** Four who are OVER. */
  private static WaxWings landed() {
    WaxWings x = sky("../..=0f991f991f991f991");
    for (int i = 0; i < 4; i++) x.beat(i, 1);
    return x;
  }

  private static void judge() {
    test(23, "the first by which one FALLS; by what by asked()", () -> {
      due(withRow(sky("../..=0f900"), 2, 2), "judge(0, 2)", 0, 1);
      due(withRow(sky(".../.../...=4f291"), 2, 1, 2), "judge(0, 2)", 1, 2);
      due(withRow(sky("....=0f990"), 2, 1, 1, 1), "judge(0, 2)", 2, 3);
      due(withRow(sky("....=0f990"), 2, 1, 1, 1, 1, 0), "judge(0, 2)", 2, 3);
    });
    test(23, "the first that can't be", () -> {
      due(withRow(sky("..../....=0f991"), 2, 2, 1, 1), "judge(0, 2)", 0, 0);
      due(withRow(sky("..../....=0f991"), 2, 1, 2, 1), "judge(0, 2)", 1, 0);
      due(withRow(sky("..../..#.=0f991"), 2, 1, 1, 1), "judge(0, 2)", 1, 0);
      due(withRow(sky("..../....=0f991"), 2, 1, 0, 0), "judge(0, 2)", 2, 0);
    });
    test(23, "OVER, too", () -> {
      due(withRow(sky(".../...=0f991"), 2, 1, 1, 1), "judge(0, 2)", 2, 0);
      due(rich(), "judge(1, 2)", 0, 0);
    });
    test(23, "as many as there are: none", () -> {
      due(withRow(sky(".../...=0f991"), 2, 1, 1), "judge(0, 2)", 2, 0);
      due(withRow(sky(".../...=0f991"), 2, 1), "judge(0, 2)", 1, 0);
      // whatever BEAT came then one would FALL
      due(withRow(sky(".../...=9f991"), 2, 1), "judge(0, 2)", 1, 0);
    });
    test(23, "an empty ROW", () -> {
      due(rich(), "judge(0, 0)", 0, 0);
      due(rich(), "judge(1, 0)", 0, 0);
      due(withRow(sky("../..=9f001"), 2), "judge(0, 2)", 0, 0);
    });
    test(23, "a full ROW", () -> {
      WaxWings x = sky("......./.......=0n091");
      x.row(0, 40);
      due(x, "judge(0, 0)", 1, 0);
      for (int i = 0; i < 40; i++) x.lay(0, i, 1);
      due(x, "judge(0, 0)", 6, 0);
    });
    test(23, "aside", () -> {
      dueAside("judge(0, 2)");
      dueAside("judge(3, 5)");
      dueAside("judge(0, 4)");
    });
    test(23, "BAD", () -> bad(Due::rich, "judge(-1, 2)", "judge(4, 2)", "judge(MIN, 2)", "judge(MAX, 2)", "judge(0, -1)", "judge(0, 6)",
        "judge(0, MIN)", "judge(0, MAX)"));
    test(23, "BAD ahead of STATE", () -> bad(Due::rich, "judge(2, 6)", "judge(2, -1)"));
    test(23, "STATE: one FELL; ahead of NOTHING and UNLIKE", () -> state(Due::rich, "judge(2, 2)", "judge(2, 0)", "judge(2, 1)", "judge(2, 3)"));
    test(23, "NOTHING", () -> found(NOTHING, Due::rich, "judge(0, 1)", "judge(1, 1)", "judge(3, 1)"));
    test(23, "UNLIKE: no BEAT", () -> {
      found(UNLIKE, Due::rich, "judge(0, 3)", "judge(1, 3)");
      for (int v : new int[] {-1, 3, LOWEST, HIGHEST}) found(UNLIKE, () -> withRow(rich(), 2, v), "judge(0, 2)");
    });
    test(23, "UNLIKE, also behind where it ends", () -> {
      found(UNLIKE, () -> withRow(rich(), 2, 0, 0, 3), "judge(0, 2)", "judge(1, 2)");
      found(UNLIKE, () -> run(rich(), "lay(4, 39, 3)", "lay(4, 1, 4321)", "lay(4, 1, 0)"), "judge(0, 4)");
    });
  }

  private static void soonest() {
    test(24, "the fewest BEATS, not the first WAY", () -> {
      WaxWings x = sky("...../.>...=0f991");
      due(x, "soonest(0, 1)", 3);
      dueRow(x, 1, 1, 0, 1);
      x = sky("..../..../.>..=0o991");
      due(x, "soonest(0, 1)", 2);
      dueRow(x, 1, 2, 0);
    });
    test(24, "the first such", () -> {
      WaxWings x = sky(".../...=0f991");
      due(x, "soonest(0, 1)", 2);
      dueRow(x, 1, 0, 1);
      x = rich();
      due(x, "soonest(0, 1)", 2);
      dueRow(x, 1, 1, 2);
    });
    test(24, "OVER already: an empty one", () -> {
      for (int r : new int[] {0, 1, 4}) {
        WaxWings x = rich();
        due(x, "soonest(1, " + r + ")", 0);
        dueRow(x, r);
      }
    });
    test(24, "comes to a ROW (anew)", () -> {
      for (int r = 0; r < 6; r++) {
        WaxWings x = rich();
        due(x, "soonest(0, " + r + ")", 2);
        dueRow(x, r, 1, 2);
        due(x, "count(6)", r == 1 ? 6 : 5);
      }
    });
    test(24, "six BEATS, the most", () -> {
      WaxWings x = sky(STAIRS + "a940");
      due(x, "soonest(0, 5)", 6);
      dueRow(x, 5, 1, 1, 2, 2, 2, 2);
    });
    test(24, "NONE: there is none", () -> {
      none(Due::rich, "soonest(3, 0)", "soonest(3, 1)", "soonest(3, 4)");
      none(() -> sky(".#/.#=0f991"), "soonest(0, 0)");
    });
    test(24, "BAD", () -> bad(Due::rich, "soonest(-1, 0)", "soonest(4, 0)", "soonest(MIN, 0)", "soonest(MAX, 0)", "soonest(0, -1)",
        "soonest(0, 6)", "soonest(0, MIN)", "soonest(0, MAX)", "soonest(2, 6)"));
    test(24, "STATE: one FELL", () -> state(Due::rich, "soonest(2, 0)", "soonest(2, 1)"));
  }

  private static void lightest() {
    test(25, "the most STRENGTH left, not the soonest WAY", () -> {
      WaxWings x = sky("..../..../.>..=0o991");
      due(x, "lightest(0, 1)", 9);
      dueRow(x, 1, 1, 0, 1);
      x = rich();
      due(x, "lightest(0, 1)", 5);
      dueRow(x, 1, 2, 0);
    });
    test(25, "the first such", () -> {
      WaxWings x = sky(".../.../...=0o991");
      due(x, "lightest(0, 1)", 9);
      dueRow(x, 1, 0, 1);
    });
    test(25, "none left", () -> {
      WaxWings x = sky(".#/..=0f920");
      due(x, "lightest(0, 1)", 0);
      dueRow(x, 1, 2);
    });
    test(25, "OVER already: what is left, an empty ROW", () -> {
      for (int r : new int[] {0, 1, 4}) {
        WaxWings x = rich();
        due(x, "lightest(1, " + r + ")", 6);
        dueRow(x, r);
      }
    });
    test(25, "comes to a ROW (anew)", () -> {
      for (int r = 0; r < 6; r++) {
        WaxWings x = rich();
        due(x, "lightest(0, " + r + ")", 5);
        dueRow(x, r, 2, 0);
      }
    });
    test(25, "NONE", () -> {
      none(Due::rich, "lightest(3, 0)", "lightest(3, 1)", "lightest(3, 4)");
      none(() -> sky(".#/..=0f910"), "lightest(0, 0)");
    });
    test(25, "BAD", () -> bad(Due::rich, "lightest(-1, 0)", "lightest(4, 0)", "lightest(MIN, 0)", "lightest(MAX, 0)", "lightest(0, -1)",
        "lightest(0, 6)", "lightest(0, MIN)", "lightest(0, MAX)", "lightest(2, 6)"));
    test(25, "STATE: one FELL", () -> state(Due::rich, "lightest(2, 0)", "lightest(2, 1)"));
  }

  private static final String WIDE = "#######/ggggggg/ggggggg/ggggggg/ggggggg=0f092";

  private static void ways() {
    test(26, "how many: none, one, many", () -> {
      dueChance(rich(), "ways(3)", 0, 1);
      dueChance(rich(), "ways(0)", 2, 1);
      dueChance(sky(STAIRS + "a980"), "ways(0)", 1, 1);
      dueChance(sky(WIDE), "ways(0)", 377, 1);
      // 517 rows of BEATS stay among the HEIGHTS; 16 of them clog
      dueChance(sky("ggggggg/ggggggg/ggggggg/ggggggg/ggggggg=0f092"), "ways(0)", 501, 1);
    });
    test(26, "OVER already: an empty one", () -> dueChance(rich(), "ways(1)", 1, 1));
    test(26, "it tells asked() nothing, and changes nothing", () -> {
      WaxWings x = rich();
      due(x, "ways(0)", 1, 4321);
      run(x, "plan(0, 2, 5)");
      dueAlike(x, rich(), "ways(0)");
    });
    test(26, "BAD", () -> bad(Due::rich, "ways(-1)", "ways(4)", "ways(MIN)", "ways(MAX)"));
    test(26, "STATE: one FELL", () -> state(Due::rich, "ways(2)"));
  }

  private static void heights() {
    test(27, "by some WAY; by each WAY by asked()", () -> {
      due(rich(), "heights(0, 3)", 3, 0);
      due(rich(), "heights(0, 4)", 3, 0);
      for (int c = 1; c <= 6; c++) due(sky(STAIRS + "a980"), "heights(0, " + c + ")", c < 3 ? 1 : 1 << c - 2, c < 3 ? 1 : 1 << c - 2);
    });
    test(27, "the greatest HEIGHT", () -> due(sky("##/##/##/##/..=0f994"), "heights(0, 1)", 16, 16));
    test(27, "where one comes to: not one's own COLUMN, nor one behind", () -> {
      due(rich(), "heights(0, 2)", 0, 0);
      due(rich(), "heights(0, 1)", 0, 0);
      due(rich(), "heights(0, 0)", 0, 0);
    });
    test(27, "OVER already: none", () -> {
      for (int c = 0; c < 5; c++) due(rich(), "heights(1, " + c + ")", 0, 0);
    });
    test(27, "0, 0: none", () -> {
      for (int c = 0; c < 5; c++) due(rich(), "heights(3, " + c + ")", 0, 0);
    });
    test(27, "a COLUMN that a WIND takes one past", () -> {
      due(sky(">.../....=0f990"), "heights(0, 1)", 0, 0);
      due(sky(">.../....=0f990"), "heights(0, 2)", 3, 0);
      due(sky(".>../..#.=0f990"), "heights(0, 2)", 1, 0);
    });
    test(27, "it changes nothing but asked()", () -> dueAside("heights(0, 3)"));
    test(27, "BAD: also no such COLUMN", () -> {
      bad(Due::rich, "heights(0, -1)", "heights(0, 5)", "heights(0, MIN)", "heights(0, MAX)", "heights(1, 5)");
      bad(Due::rich, "heights(-1, 1)", "heights(4, 1)", "heights(MIN, 1)", "heights(MAX, 1)");
      bad(() -> sky(WIDE), "heights(0, 7)");
    });
    test(27, "BAD ahead of STATE", () -> bad(Due::rich, "heights(2, -1)", "heights(2, 5)"));
    test(27, "STATE: one FELL", () -> state(Due::rich, "heights(2, 0)", "heights(2, 4)"));
  }

  private static void nth() {
    test(28, "WAYS go by their first BEATS, then second ones", () -> {
      int[][] want = {{1, 1}, {1, 2}, {2, 0, 1}, {2, 0, 2}, {2, 1, 0}, {2, 1, 1}};
      WaxWings x = sky(".>../....=0f990");
      for (int n = 0; n < 6; n++) {
        due(x, "nth(0, " + n + ", 5)", want[n].length);
        dueRow(x, 5, want[n]);
      }
      due(x, "nth(0, 6, 5)", FINDING);
    });
    test(28, "the first and the last of many", () -> {
      WaxWings x = sky(WIDE);
      due(x, "nth(0, 0, 3)", 6);
      dueRow(x, 3, 0, 1, 1, 1, 1, 1);
      due(x, "nth(0, 376, 3)", 6);
      dueRow(x, 3, 2, 2, 1, 1, 1, 1);
    });
    test(28, "OVER already: an empty one, the only one", () -> {
      for (int r : new int[] {0, 1, 4}) {
        WaxWings x = rich();
        due(x, "nth(1, 0, " + r + ")", 0);
        dueRow(x, r);
      }
      found(NOUGHT, Due::rich, "nth(1, 1, 0)");
    });
    test(28, "comes to a ROW (anew)", () -> {
      for (int r = 0; r < 6; r++) {
        WaxWings x = rich();
        due(x, "nth(0, 1, " + r + ")", 2);
        dueRow(x, r, 2, 0);
      }
    });
    test(28, "NOUGHT: there are not so many", () -> {
      found(NOUGHT, Due::rich, "nth(0, 2, 0)", "nth(0, 2, 1)", "nth(0, 2, 4)", "nth(0, MAX, 0)", "nth(3, 0, 0)");
      found(NOUGHT, () -> sky(WIDE), "nth(0, 377, 0)");
    });
    test(28, "BAD: below 0", () -> {
      bad(Due::rich, "nth(0, -1, 0)", "nth(0, MIN, 0)", "nth(3, -1, 0)");
      bad(Due::rich, "nth(-1, 0, 0)", "nth(4, 0, 0)", "nth(MIN, 0, 0)", "nth(MAX, 0, 0)", "nth(0, 0, -1)", "nth(0, 0, 6)", "nth(0, 0, MIN)",
          "nth(0, 0, MAX)");
    });
    test(28, "BAD ahead of STATE", () -> bad(Due::rich, "nth(2, -1, 0)", "nth(2, 0, 6)"));
    test(28, "STATE ahead of NOUGHT", () -> state(Due::rich, "nth(2, 0, 0)", "nth(2, 99, 0)"));
  }

  private static void waxAndStrength() {
    test(29, "the least WAX (0 .. 9)", () -> {
      due(sky(".../...=0f991"), "wax(0)", 0);
      due(sky("##/..=4f091"), "wax(0)", 1);
      for (int sun = 0; sun <= 9; sun++) due(sky("##/##/##/##/..=" + sun + "f054"), "wax(0)", sun);
      due(sky("##/..=9n091"), "wax(0)", 0);
    });
    test(29, "whatever WAX one has, from where one is", () -> {
      due(rich(), "wax(0)", 9);
      due(rich(), "wax(3)", 9);
      due(run(rich(), "sun(4)"), "wax(0)", 5);
    });
    test(29, "OVER already: 0", () -> {
      due(rich(), "wax(1)", 0);
      due(run(sky("../..=9f991"), "beat(0, 1)"), "wax(0)", 0);
    });
    test(29, "NONE: by none", () -> {
      none(() -> sky("##/##/##/##/..=5b054"), "wax(0)");
      due(sky("##/##/##/##/..=4b054"), "wax(0)", 8);
      none(() -> sky("##/..=0f901"), "wax(0)");
      none(() -> sky(".#=0f990"), "wax(0)");
    });
    test(29, "it changes nothing", () -> refused(Due::rich, 9, 0, "wax(0)"));
    test(29, "BAD", () -> bad(Due::rich, "wax(-1)", "wax(4)", "wax(MIN)", "wax(MAX)"));
    test(29, "STATE: one FELL", () -> state(Due::rich, "wax(2)"));

    test(30, "the least STRENGTH left now (0 .. 40)", () -> {
      due(sky("../..=0f991"), "strength(0)", 0);
      due(sky("##/..=0f991"), "strength(0)", 1);
      due(sky("##/..=0o991"), "strength(0)", 0);
      int[] none = {10, 12, 10, 10, 12, 4}, three = {22, 24, 22, 28, 24, 22};
      for (int kind = 0; kind < 6; kind++) {
        WaxWings x = sky(STAIRS + "foblna".charAt(kind) + "000");
        due(x, "strength(0)", none[kind]);
        x.letters(0, 3);
        due(x, "strength(0)", three[kind]);
      }
    });
    test(30, "whatever STRENGTH is left, from where one is", () -> {
      due(rich(), "strength(0)", 3);
      due(run(sky(STAIRS + "f990"), "beat(0, 1)"), "strength(0)", 9);
    });
    test(30, "OVER already: 0", () -> due(rich(), "strength(1)", 0));
    test(30, "NONE", () -> none(Due::rich, "strength(3)"));
    test(30, "it changes nothing", () -> refused(Due::rich, 3, 0, "strength(0)"));
    test(30, "BAD", () -> bad(Due::rich, "strength(-1)", "strength(4)", "strength(MIN)", "strength(MAX)"));
    test(30, "STATE: one FELL", () -> state(Due::rich, "strength(2)"));
  }

  private static void mostHottestKinds() {
    test(31, "the most LETTERS (0 .. 3)", () -> {
      int[] want = {NONE, NONE, 0, 1, 2, 3, 3, 3, 3, 3};
      for (int left = 0; left <= 9; left++) for (int had = 0; had <= 3; had += 3) {
        WaxWings x = sky(".#/..=0f9" + left + "0");
        x.letters(0, had);
        due(x, "most(0)", want[left]);
        due(x, "flyer(0, 6)", 1, had);
      }
    });
    test(31, "from where one is; OVER already: 3", () -> {
      due(rich(), "most(0)", 3);
      due(rich(), "most(1)", 3);
    });
    test(31, "NONE", () -> none(Due::rich, "most(3)"));
    test(31, "it changes nothing", () -> refused(Due::rich, 3, 0, "most(0)"));
    test(31, "BAD", () -> bad(Due::rich, "most(-1)", "most(4)", "most(MIN)", "most(MAX)"));
    test(31, "STATE: one FELL", () -> state(Due::rich, "most(2)"));

    test(32, "the greatest SUN (0 .. 9)", () -> {
      for (int wax = 0; wax <= 9; wax++) due(sky("##/##/##/##/..=5f" + wax + "94"), "hottest(0)", wax);
      for (int wax = 0; wax <= 9; wax++) due(sky("##/##/##/##/..=5b" + wax + "94"), "hottest(0)", wax / 2);
      due(sky("##/##/##/##/..=0n094"), "hottest(0)", 9);
    });
    test(32, "from where one is; OVER already: 9", () -> {
      due(rich(), "hottest(0)", 6);
      due(rich(), "hottest(1)", 9);
    });
    test(32, "NONE", () -> {
      none(() -> sky(".#=0f990"), "hottest(0)");
      none(() -> sky("##/..=0f901"), "hottest(0)");
    });
    test(32, "it changes nothing", () -> refused(Due::rich, 6, 0, "hottest(0)"));
    test(32, "BAD", () -> bad(Due::rich, "hottest(-1)", "hottest(4)", "hottest(MIN)", "hottest(MAX)"));
    test(32, "STATE: one FELL", () -> state(Due::rich, "hottest(2)"));

    test(33, "by which KINDS, all else as it is", () -> {
      due(rich(), "kinds(0)", 59);
      due(rich(), "kinds(3)", 16);
      due(sky("##/..=4f111"), "kinds(0)", 59);
      due(run(sky("##/..=4f111"), "letters(0, 1)"), "kinds(0)", 51);
      due(run(sky("##/..=4f111"), "letters(0, 2)"), "kinds(0)", 19);
    });
    test(33, "all of them: OVER already, too", () -> {
      due(rich(), "kinds(1)", 63);
      due(sky("../..=0b001"), "kinds(0)", 63);
    });
    test(33, "none of them", () -> {
      due(sky(".#=0f990"), "kinds(0)", 0);
      due(sky(".#/..=0f900"), "kinds(0)", 0);
    });
    test(33, "it changes nothing", () -> refused(Due::rich, 59, 0, "kinds(0)"));
    test(33, "BAD", () -> bad(Due::rich, "kinds(-1)", "kinds(4)", "kinds(MIN)", "kinds(MAX)"));
    test(33, "STATE: one FELL", () -> state(Due::rich, "kinds(2)"));
  }

  private static void post() {
    test(34, "the fewest who have some; of alike ways the first by FLYERS, fewest LETTERS first", () -> {
      int[][] want = {{0, 0, 0, 0}, {0, 1, 0, 0}, {0, 2, 0, 0}, {0, 3, 0, 0}, {1, 3, 0, 0}, {2, 3, 0, 0}, {3, 3, 0, 0}};
      for (int n = 0; n <= 6; n++) {
        WaxWings x = rich();
        due(x, "post(" + n + ", 1)", n == 0 ? 0 : n <= 3 ? 1 : 2);
        dueRow(x, 1, want[n]);
      }
    });
    test(34, "n (0 .. 12), 0 to 3 each", () -> {
      int[][] want = {{0, 0, 0, 0}, {0, 0, 0, 1}, {0, 0, 0, 3}, {0, 0, 1, 3}, {0, 0, 3, 3}, {0, 1, 3, 3}, {0, 3, 3, 3}, {1, 3, 3, 3},
          {2, 3, 3, 3}, {3, 3, 3, 3}};
      int[] n = {0, 1, 3, 4, 6, 7, 9, 10, 11, 12}, fewest = {0, 1, 1, 2, 2, 3, 3, 4, 4, 4};
      for (int k = 0; k < n.length; k++) {
        WaxWings x = landed();
        due(x, "post(" + n[k] + ", 1)", fewest[k]);
        dueRow(x, 1, want[k]);
      }
    });
    test(34, "FLYERS that did not FALL; all of them OVER by some WAY then", () -> {
      WaxWings x = sky(".#/..=0f940f930f950f910");
      int[][] want = {{0, 0, 0, 0}, {0, 0, 1, 0}, {0, 0, 2, 0}, {0, 0, 3, 0}, {0, 1, 3, 0}, {2, 0, 3, 0}, {2, 1, 3, 0}};
      int[] fewest = {0, 1, 1, 1, 2, 2, 3};
      for (int n = 0; n <= 6; n++) {
        due(x, "post(" + n + ", 1)", fewest[n]);
        dueRow(x, 1, want[n]);
      }
      none(() -> sky(".#/..=0f940f930f950f910"), "post(7, 1)", "post(12, 1)");
    });
    test(34, "who has none need not", () -> {
      WaxWings x = sky(".#=0f990f990");
      due(x, "post(0, 1)", 0);
      dueRow(x, 1, 0, 0);
      none(() -> sky(".#=0f990f990"), "post(1, 1)");
      x = run(sky("../..=9f091"), "beat(0, 1)");
      due(x, "post(0, 1)", 0);
      dueRow(x, 1, 0);
      none(() -> run(sky("../..=9f091"), "beat(0, 1)"), "post(1, 1)");
    });
    test(34, "as many places as FLYERS", () -> {
      for (int n = 1; n <= 4; n++) {
        WaxWings x = sky("../..=0" + "f991".repeat(n));
        due(x, "post(" + 3 * n + ", 4)", n);
        dueRow(x, 4, java.util.Arrays.copyOf(new int[] {3, 3, 3, 3}, n));
      }
    });
    test(34, "comes to a ROW (anew)", () -> {
      for (int r = 0; r < 6; r++) {
        WaxWings x = rich();
        due(x, "post(4, " + r + ")", 2, 4321);
        dueRow(x, r, 1, 3, 0, 0);
        due(x, "count(6)", r == 1 ? 6 : 5);
        due(x, "flyer(0, 6)", 1, 1);
        due(x, "flyer(1, 6)", 1, 0);
      }
    });
    test(34, "NONE: not so many", () -> none(Due::rich, "post(7, 0)", "post(7, 1)", "post(12, 4)"));
    test(34, "BAD", () -> bad(Due::rich, "post(-1, 0)", "post(13, 0)", "post(MIN, 0)", "post(MAX, 0)", "post(0, -1)", "post(0, 6)",
        "post(0, MIN)", "post(0, MAX)"));
    test(34, "STATE: no FLYERS", () -> {
      state(Due::fresh, "post(0, 0)", "post(12, 5)");
      state(Due::bare, "post(0, 0)", "post(1, 0)");
    });
    test(34, "BAD ahead of STATE", () -> {
      bad(Due::fresh, "post(13, 0)", "post(-1, 0)", "post(0, 6)");
      bad(Due::bare, "post(0, -1)");
    });
  }

  static int wrong() {
    judge();
    soonest();
    lightest();
    ways();
    heights();
    nth();
    waxAndStrength();
    mostHottestKinds();
    post();
    return wrong(23, 34);
  }

  public static void main(String[] args) {
    if (wrong() != 0) System.exit(1);
  }
}
