/** Boundary cases of GUSTS, boats, feathers and LOTS: promises 35 to 41, each sentence by a test of its own. */
public final class ChanceBoundsTest extends Due {
  /** Each number of 12 in lowest terms. */
  private static final int[] UPPER = {0, 1, 1, 1, 1, 5, 1, 7, 2, 3, 5, 11, 1}, LOWER = {1, 12, 6, 4, 3, 12, 2, 12, 3, 4, 6, 12, 1};

  private static WaxWings withRow(WaxWings x, int r, int... v) {
    row(x, r, v);
    return x;
  }

  private static WaxWings withTold(WaxWings x) { return run(x, "plan(0, 2, 5)", "lay(4, 1, 4321)", "lay(4, 1, 0)"); }

  private static void plan() {
    test(35, "p 0 .. 12, in lowest terms, 0 by 1", () -> {
      // sunk into the WIND one is OVER, else not
      WaxWings x = withRow(sky(".>../....=0f991"), 0, 1, 1);
      for (int p = 0; p <= 12; p++) dueChance(x, "plan(0, 0, " + p + ")", UPPER[p], LOWER[p]);
      x = rich();
      for (int p = 0; p <= 12; p++) dueChance(x, "plan(0, 2, " + p + ")", UPPER[12 - p], LOWER[12 - p]);
    });
    test(35, "an empty PLAN", () -> {
      dueChance(rich(), "plan(0, 0, 5)", 0, 1);
      dueChance(rich(), "plan(1, 0, 5)", 1, 1);
    });
    test(35, "8 BEATS; SIZE: more than 8", () -> {
      dueChance(withRow(rich(), 0, 2, 0, 1, 1, 1, 1, 1, 1), "plan(0, 0, 5)", 7, 12);
      found(SIZE, Due::rich, "plan(0, 5, 5)", "plan(1, 5, 5)", "plan(3, 5, 0)", "plan(0, 4, 5)");
    });
    test(35, "it ends where one is OVER", () -> {
      dueChance(rich(), "plan(1, 2, 5)", 1, 1);
      dueChance(withRow(rich(), 0, 2, 0, 0, 0), "plan(0, 0, 5)", 7, 12);
    });
    test(35, "it ends where a BEAT can't be", () -> {
      dueChance(withRow(sky(".../...=0f991"), 0, 2, 1, 1), "plan(0, 0, 0)", 0, 1);
      dueChance(withRow(sky("..../....=0f991"), 0, 1, 2, 1, 1), "plan(0, 0, 0)", 0, 1);
    });
    test(35, "it ends where one FALLS", () -> {
      dueChance(withRow(sky(".../...=9f091"), 0, 1, 1), "plan(0, 0, 0)", 0, 1);
      dueChance(withRow(sky("../..=9f091"), 0, 1), "plan(0, 0, 0)", 0, 1);
      dueChance(withRow(sky(".../...=0f911"), 0, 1, 1), "plan(0, 0, 0)", 0, 1);
    });
    test(35, "GUSTS not in the last COLUMN", () -> {
      // at HEIGHT 1 one FALLS there, at HEIGHT 0 one would not
      dueChance(withRow(sky("../..=4f091"), 0, 1), "plan(0, 0, 12)", 0, 1);
      dueChance(withRow(sky("../..=4f191"), 0, 1), "plan(0, 0, 12)", 1, 1);
    });
    test(35, "where there is none lower, not", () -> dueChance(withRow(sky("...=0f990"), 0, 1, 1), "plan(0, 0, 12)", 1, 1));
    test(35, "where a ROCK is lower, not", () -> {
      dueChance(withRow(sky(".#./..#/...=0f991"), 0, 1, 2), "plan(0, 0, 12)", 1, 1);
      dueChance(withRow(sky("..../.#.#/....=0f992"), 0, 1, 1, 1), "plan(0, 0, 12)", 0, 1);
    });
    test(35, "ahead of HEAT", () -> {
      // out of the CLOUD it is too hot
      WaxWings x = withRow(sky(".../.cc=5f091"), 0, 1, 1);
      for (int p = 0; p <= 12; p++) dueChance(x, "plan(0, 0, " + p + ")", UPPER[12 - p], LOWER[12 - p]);
      // 1 lower it is cool enough
      x = withRow(sky(".../.../...=3f092"), 0, 1, 0);
      for (int p = 0; p <= 12; p++) dueChance(x, "plan(0, 0, " + p + ")", UPPER[p], LOWER[p]);
    });
    test(35, "ahead of CLOG", () -> {
      // two in the SPRAY, then a third: sunk out of it by the first or the second one is OVER
      WaxWings x = withRow(sky("####/..../.sss=0n992"), 0, 1, 1, 1);
      dueChance(x, "plan(0, 0, 0)", 0, 1);
      dueChance(x, "plan(0, 0, 12)", 1, 1);
      dueChance(x, "plan(0, 0, 6)", 3, 4);
    });
    test(35, "five GUSTS", () -> {
      WaxWings x = withRow(sky("......#/......./.......=0n991"), 0, 1, 1, 1, 1, 1, 1);
      dueChance(x, "plan(0, 0, 1)", 161051, 248832);
      dueChance(x, "plan(0, 0, 11)", 1, 248832);
      dueChance(x, "plan(0, 0, 6)", 1, 32);
      dueChance(x, "plan(0, 0, 12)", 0, 1);
    });
    test(35, "it changes nothing but what is told", () -> {
      WaxWings x = rich();
      due(x, "plan(3, 2, 3)", 1, 4321);
      dueAlike(withTold(x), rich(), "plan(3, 2, 3)");
    });
    test(35, "BAD", () -> bad(Due::rich, "plan(-1, 2, 5)", "plan(4, 2, 5)", "plan(MIN, 2, 5)", "plan(MAX, 2, 5)", "plan(0, -1, 5)",
        "plan(0, 6, 5)", "plan(0, MIN, 5)", "plan(0, MAX, 5)", "plan(0, 2, -1)", "plan(0, 2, 13)", "plan(0, 2, MIN)", "plan(0, 2, MAX)"));
    test(35, "BAD ahead of STATE", () -> bad(Due::rich, "plan(2, 6, 5)", "plan(2, 2, 13)", "plan(2, 1, -1)"));
    test(35, "STATE: one FELL; ahead of NOTHING, SIZE, UNLIKE", () -> state(Due::rich, "plan(2, 2, 5)",
        "plan(2, 1, 5)", "plan(2, 5, 5)", "plan(2, 3, 5)"));
    test(35, "NOTHING", () -> found(NOTHING, Due::rich, "plan(0, 1, 5)", "plan(1, 1, 0)", "plan(3, 1, 12)"));
    test(35, "SIZE ahead of UNLIKE", () -> found(SIZE, () -> run(rich(), "lay(5, 8, 3)", "lay(4, 1, 4321)", "lay(4, 1, 0)"), "plan(0, 5, 5)"));
    test(35, "UNLIKE: no BEAT, also behind where it ends", () -> {
      found(UNLIKE, Due::rich, "plan(0, 3, 5)", "plan(1, 3, 5)");
      for (int v : new int[] {-1, 3, LOWEST, HIGHEST}) found(UNLIKE, () -> withRow(rich(), 0, 2, 0, v), "plan(0, 0, 5)");
    });
  }

  private static void odds() {
    test(36, "each BEAT being chosen by how one is then", () -> {
      int[][] plans = {{1, 0}, {1, 1}, {0, 1}, {0, 2}};
      int[] upper = {7, 5, 7, 5};
      for (int n = 0; n < 4; n++) dueChance(withRow(sky("..#/.../..#=0f992"), 0, plans[n]), "plan(0, 0, 5)", upper[n], 12);
      dueChance(sky("..#/.../..#=0f992"), "odds(0, 5)", 1, 1);
    });
    test(36, "p 0 .. 12", () -> {
      // only by a GUST one is OVER; only without one
      WaxWings x = sky("##./#.#/#../...=0f903"), y = sky("..#/.../...=0f912");
      for (int p = 0; p <= 12; p++) {
        dueChance(x, "odds(0, " + p + ")", UPPER[p], LOWER[p]);
        dueChance(y, "odds(0, " + p + ")", UPPER[12 - p], LOWER[12 - p]);
      }
    });
    test(36, "no WAY without GUSTS, one with them", () -> {
      dueChance(rich(), "odds(3, 0)", 0, 1);
      dueChance(rich(), "odds(0, 0)", 1, 1);
    });
    test(36, "OVER already", () -> {
      for (int p = 0; p <= 12; p += 6) dueChance(rich(), "odds(1, " + p + ")", 1, 1);
    });
    test(36, "five GUSTS", () -> {
      WaxWings x = sky("#######/......#/.......=0n902");
      x.letters(0, 3);
      dueChance(x, "odds(0, 1)", 161051, 248832);
      dueChance(x, "odds(0, 11)", 1, 248832);
    });
    test(36, "it changes nothing but what is told", () -> {
      WaxWings x = rich();
      due(x, "odds(3, 3)", 1, 4321);
      dueAlike(withTold(x), rich(), "odds(3, 3)");
    });
    test(36, "BAD", () -> bad(Due::rich, "odds(-1, 5)", "odds(4, 5)", "odds(MIN, 5)", "odds(MAX, 5)", "odds(0, -1)", "odds(0, 13)",
        "odds(0, MIN)", "odds(0, MAX)", "odds(2, 13)"));
    test(36, "STATE: one FELL", () -> state(Due::rich, "odds(2, 0)", "odds(2, 12)"));

    test(37, "the first of those", () -> {
      due(sky("..#/.../..#=0f992"), "choice(0, 5)", 0);
      due(sky(".../.../...=0f991"), "choice(0, 0)", 0);
      due(rich(), "choice(0, 5)", 1);
    });
    test(37, "the greatest chances, though not the first", () -> {
      WaxWings x = sky("..#/.../...=0n922");
      for (int p = 0; p <= 12; p++) due(x, "choice(0, " + p + ")", p == 0 ? 0 : 1);
      due(sky(".#/..=0f920"), "choice(0, 12)", 2);
      due(sky(".#/..=0f920"), "choice(0, 0)", 2);
    });
    test(37, "NONE: whatever one does chances are 0", () -> {
      none(Due::rich, "choice(3, 0)", "choice(3, 5)", "choice(3, 12)");
      none(() -> sky(".#=0f990"), "choice(0, 0)", "choice(0, 12)");
      none(() -> sky("##./#.#/#../...=0f903"), "choice(0, 0)");
      none(() -> sky("..#/.../...=0f912"), "choice(0, 12)");
    });
    test(37, "NONE: one is OVER", () -> none(Due::rich, "choice(1, 0)", "choice(1, 5)", "choice(1, 12)"));
    test(37, "it changes nothing", () -> refused(Due::rich, 1, 0, "choice(0, 5)"));
    test(37, "BAD", () -> bad(Due::rich, "choice(-1, 5)", "choice(4, 5)", "choice(MIN, 5)", "choice(MAX, 5)", "choice(0, -1)",
        "choice(0, 13)", "choice(0, MIN)", "choice(0, MAX)", "choice(2, 13)"));
    test(37, "STATE: one FELL", () -> state(Due::rich, "choice(2, 0)", "choice(2, 12)"));
  }

  private static void boats() {
    test(38, "n (1 .. 4) boats, 2 to 7 COLUMNS, rising, the first such row", () -> {
      int[][][] rows = {{{0}, {0, 1}}, {{1}, {0, 1}, {0, 1, 2}}, {{1}, {0, 2}, {0, 1, 2}, {0, 1, 2, 3}},
          {{2}, {0, 3}, {0, 1, 3}, {0, 1, 2, 3}}, {{2}, {1, 4}, {0, 1, 4}, {0, 1, 2, 4}}, {{3}, {0, 4}, {0, 2, 5}, {0, 1, 2, 5}}};
      int[][] far = {{1, 0}, {1, 1, 0}, {2, 1, 1, 0}, {2, 1, 1, 1}, {3, 1, 1, 1}, {3, 2, 1, 1}};
      for (int c = 2; c <= 7; c++) for (int n = 1; n <= 4 && n <= c; n++) {
        WaxWings x = sky(".".repeat(c) + "=0");
        due(x, "boats(" + n + ", 0)", far[c - 2][n - 1]);
        dueRow(x, 0, rows[c - 2][n - 1]);
      }
    });
    test(38, "comes to a ROW (anew)", () -> {
      for (int r = 0; r < 6; r++) {
        WaxWings x = rich();
        due(x, "boats(3, " + r + ")", 1, 4321);
        dueRow(x, r, 0, 1, 3);
        due(x, "count(6)", r == 1 ? 6 : 5);
      }
    });
    test(38, "BAD", () -> bad(Due::rich, "boats(0, 0)", "boats(5, 0)", "boats(-1, 0)", "boats(MIN, 0)", "boats(MAX, 0)", "boats(1, -1)",
        "boats(1, 6)", "boats(1, MIN)", "boats(1, MAX)"));
    test(38, "STATE: no COLUMNS", () -> state(Due::fresh, "boats(1, 0)", "boats(4, 0)"));
    test(38, "BAD ahead of STATE", () -> bad(Due::fresh, "boats(0, 0)", "boats(5, 0)", "boats(1, 6)"));
    test(38, "SIZE: more than COLUMNS", () -> {
      found(SIZE, () -> withRow(sky("..=0"), 0, 7), "boats(3, 0)", "boats(4, 0)", "boats(3, 1)");
      found(SIZE, () -> withRow(sky("...=0f990"), 0, 7), "boats(4, 0)");
    });
    test(38, "BAD ahead of SIZE", () -> bad(() -> sky("..=0"), "boats(5, 0)", "boats(3, 6)"));
  }

  private static void drip() {
    test(39, "HEAT above half the WAX (cut), not as much", () -> {
      int[] column = {1, 1, 2, 2, 3, 3, 4, 4, NONE, NONE}, heat = {1, 1, 2, 2, 3, 3, 4, 4, 0, 0};
      for (int wax = 0; wax <= 9; wax++) due(withRow(sky("...../.....=4f" + wax + "91"), 2, 1, 1, 1, 1), "drip(0, 2)", column[wax],
          heat[wax]);
      int[] fast = {1, 1, 1, 1, 2, 2, 2, 2, 3, 3};
      for (int wax = 0; wax <= 9; wax++) due(withRow(sky("...../.....=5f" + wax + "91"), 2, 1, 1, 1, 1), "drip(0, 2)", fast[wax], 2 * fast[wax]);
    });
    test(39, "the first COLUMN, though it cools down then", () -> {
      WaxWings x = withRow(sky("...../..ccc=5f391"), 2, 1, 1, 1, 1);
      due(x, "drip(0, 2)", 1, 2);
    });
    test(39, "a COLUMN that one comes to, by a WIND too; not one's own", () -> {
      due(withRow(sky("..../>...=5f991f291"), 2, 1, 1), "drip(1, 2)", 2, 2);
      WaxWings x = withRow(run(sky(".../..c=6f491"), "beat(0, 1)"), 2, 1);
      due(x, "flyer(0, 4)", 1, 3);
      due(x, "drip(0, 2)", NONE, 3);
      due(withRow(run(sky(".../..c=6f391"), "beat(0, 1)"), 2, 1), "drip(0, 2)", 2, 2);
    });
    test(39, "NONE: none; asked() stays", () -> {
      none(() -> withRow(run(rich(), "sun(0)"), 0, 1), "drip(0, 0)", "drip(0, 2)");
      none(Due::rich, "drip(0, 0)", "drip(1, 0)");
      // whatever BEAT came then it would drip
      none(() -> withRow(sky("..../....=6f791"), 2, 1), "drip(0, 2)");
      none(() -> withRow(sky("..../....=9f991"), 2), "drip(0, 2)");
    });
    test(39, "till it ends as by judge(): a BEAT can't be", () -> {
      none(() -> withRow(sky("...../.....=5f791"), 2, 1, 2, 1, 1), "drip(0, 2)");
      none(() -> withRow(sky("...../.....=5f791"), 2, 2, 1, 1, 1), "drip(0, 2)");
    });
    test(39, "NONE, however hot one is where one stays", () -> {
      WaxWings x = withRow(run(sky(".../...=6f491"), "beat(0, 1)"), 2, 2, 1);
      due(x, "flyer(0, 4)", 1, 3);
      due(x, "drip(0, 2)", NONE, 3);
      x = withRow(run(sky("../..=6f491"), "beat(0, 1)"), 2, 1);
      due(x, "flyer(0, 4)", 1, 3);
      due(x, "drip(0, 2)", NONE, 3);
    });
    test(39, "till it ends as by judge(): one FALLS", () -> {
      none(() -> withRow(sky("...../.....=5f911"), 2, 1, 1, 1, 1), "drip(0, 2)");
      due(withRow(sky("...../.....=5f711"), 2, 1, 1, 1, 1), "drip(0, 2)", 2, 4);
      due(withRow(sky("...../.....=9f091"), 2, 1, 1), "drip(0, 2)", 1, 6);
    });
    test(39, "till it ends as by judge(): OVER", () -> {
      none(Due::rich, "drip(1, 2)", "drip(1, 5)");
      none(() -> withRow(sky(".../...=4f591"), 2, 1, 1, 1, 1), "drip(0, 2)");
    });
    test(39, "a full ROW", () -> {
      WaxWings x = sky("......./.......=4f991");
      x.row(2, 40);
      for (int i = 0; i < 40; i++) x.lay(2, i, 1);
      due(x, "drip(0, 2)", 5, 5);
    });
    test(39, "aside", () -> {
      WaxWings x = rich();
      due(x, "drip(0, 2)", 3, 7);
      run(x, "lay(4, 1, 4321)", "lay(4, 1, 0)");
      dueAlike(x, rich(), "drip(0, 2)");
    });
    test(39, "BAD", () -> bad(Due::rich, "drip(-1, 2)", "drip(4, 2)", "drip(MIN, 2)", "drip(MAX, 2)", "drip(0, -1)", "drip(0, 6)",
        "drip(0, MIN)", "drip(0, MAX)", "drip(2, 6)"));
    test(39, "STATE: one FELL; ahead of NOTHING and UNLIKE", () -> state(Due::rich, "drip(2, 2)", "drip(2, 1)", "drip(2, 3)"));
    test(39, "NOTHING", () -> found(NOTHING, Due::rich, "drip(0, 1)", "drip(1, 1)"));
    test(39, "UNLIKE, also behind where it ends", () -> {
      found(UNLIKE, Due::rich, "drip(0, 3)", "drip(1, 3)");
      for (int v : new int[] {-1, 3, LOWEST, HIGHEST}) found(UNLIKE, () -> withRow(rich(), 2, 2, 0, 1, v), "drip(0, 2)");
    });
  }

  private static void dueFeathers(WaxWings x, int i, int set, int ways, int heights) {
    String call = "feathers(" + i + ", " + set + ")";
    dueChance(x, call, ways, 1);
    due("asked() behind " + call, x.asked(), heights);
  }

  private static void feathers() {
    test(40, "just the COLUMNS of a set, no more and no fewer", () -> {
      for (int set = 0; set < 32; set++) dueFeathers(rich(), 0, set, set == 24 ? 2 : 0, set == 24 ? 3 : 0);
      // WAX 4: LEVEL, LEVEL and LEVEL, DOWN and DOWN, UP drip in COLUMN 2, DOWN, LEVEL nowhere; WAX 3: three kinds of WAYS
      int[] ways = {1, 0, 0, 0, 3, 0, 0, 0}, heights = {1, 0, 0, 0, 3, 0, 0, 0};
      for (int set = 0; set < 8; set++) dueFeathers(sky(".../...=5f491"), 0, set, ways[set], heights[set]);
      int[] ways3 = {0, 0, 0, 0, 2, 0, 1, 0}, heights3 = {0, 0, 0, 0, 3, 0, 1, 0};
      for (int set = 0; set < 8; set++) dueFeathers(sky(".../...=5f391"), 0, set, ways3[set], heights3[set]);
    });
    test(40, "above half the WAX, not as much", () -> {
      dueFeathers(sky("##/..=5f491"), 0, 0, 1, 2);
      dueFeathers(sky("##/..=5f591"), 0, 0, 1, 2);
      dueFeathers(sky("##/..=5f391"), 0, 2, 1, 2);
      dueFeathers(sky("##/..=5f291"), 0, 2, 1, 2);
      dueFeathers(sky("##/..=5f191"), 0, 2, 0, 0);
    });
    test(40, "those ahead, not one's own: how hot one is now does not count", () -> {
      WaxWings x = run(sky("..../..cc=6f591"), "beat(0, 1)");
      due(x, "flyer(0, 4)", 1, 3);
      dueFeathers(x, 0, 0, 1, 2);
      dueFeathers(x, 0, 2, 0, 0);
    });
    test(40, "no feathers: set 0", () -> dueFeathers(sky(".../...=0f991"), 0, 0, 4, 3));
    test(40, "all COLUMNS of a set, of two and of seven", () -> {
      dueFeathers(sky("../..=9n091"), 0, 3, 0, 0);
      dueFeathers(sky("......./.......=0n091"), 0, 127, 0, 0);
      dueFeathers(sky("##/..=5f391"), 0, 3, 0, 0);
    });
    test(40, "BAD: also bits of COLUMNS that there are not", () -> {
      bad(() -> sky("../..=9n091"), "feathers(0, 4)", "feathers(0, 7)", "feathers(0, 64)");
      bad(() -> sky("......./.......=0n091"), "feathers(0, 128)", "feathers(0, 129)");
      bad(Due::rich, "feathers(0, 32)", "feathers(0, 56)", "feathers(0, -1)", "feathers(0, MIN)", "feathers(0, MAX)", "feathers(1, 32)");
      bad(Due::rich, "feathers(-1, 0)", "feathers(4, 0)", "feathers(MIN, 0)", "feathers(MAX, 0)");
    });
    test(40, "BAD ahead of STATE", () -> bad(Due::rich, "feathers(2, 32)", "feathers(2, -1)"));
    test(40, "STATE: one FELL", () -> state(Due::rich, "feathers(2, 0)", "feathers(2, 31)"));
    test(40, "no WAY", () -> dueFeathers(rich(), 3, 0, 0, 0));
    test(40, "OVER already: an empty WAY, which comes to no COLUMN", () -> {
      for (int set = 0; set < 32; set++) dueFeathers(rich(), 1, set, set == 0 ? 1 : 0, 0);
      WaxWings x = run(sky("../..=5f391"), "beat(0, 1)");
      dueFeathers(x, 0, 0, 1, 0);
      dueFeathers(x, 0, 2, 0, 0);
    });
    test(40, "it changes nothing but what is told", () -> {
      WaxWings x = rich();
      x.feathers(0, 24);
      dueAlike(withTold(x), rich(), "feathers(0, 24)");
    });
  }

  private static void lots() {
    test(41, "the first number comes from the seed, each other from the one ahead", () -> {
      // 48271, 182605794, 1291394886, 1914720637, 2078669041, 407355683
      WaxWings x = sky("......./......./.......=0f991");
      int[] height = {1, 0, 0, 1, 1, 2};
      for (int n = 1; n <= 6; n++) {
        due(x, "lots(0, " + n + ", 1)", n);
        due(x, "flyer(0, 1)", 1, n);
        due(x, "flyer(0, 2)", 1, height[n - 1]);
        due(x, "undo(0)", n);
      }
    });
    test(41, "a seed (1 .. 2147483646): its ends", () -> {
      WaxWings x = sky("../../..=0f991");
      due(x, "lots(0, 1, 2147483646)", 1);
      due(x, "flyer(0, 2)", 1, 0);
      x.undo(0);
      due(x, "lots(0, 1, 1)", 1);
      due(x, "flyer(0, 2)", 1, 1);
      bad(Due::rich, "lots(0, 1, 0)", "lots(0, 1, -1)", "lots(0, 1, MAX)", "lots(0, 1, MIN)");
    });
    test(41, "of BEATS that one can do (UP last) the one at it modulo how many there are", () -> {
      // by seeds 1, 2, 3 the first numbers leave 1, 2, 0 of 3 and 1, 0, 1 of 2
      int[] three = {1, 2, 0}, low = {1, 0, 1}, high = {1, 0, 1};
      for (int seed = 1; seed <= 3; seed++) {
        WaxWings x = sky("../../..=0f990f991f992");
        for (int i = 0; i < 3; i++) due(x, "lots(" + i + ", 1, " + seed + ")", 1);
        due(x, "flyer(0, 2)", 1, low[seed - 1]);
        due(x, "flyer(1, 2)", 1, three[seed - 1]);
        due(x, "flyer(2, 2)", 1, 1 + high[seed - 1]);
        x = sky("../.#/..=0f991");
        due(x, "lots(0, 1, " + seed + ")", 1);
        due(x, "flyer(0, 2)", 1, 2 * low[seed - 1]);
      }
    });
    test(41, "of a single one", () -> {
      for (int seed = 1; seed <= 3; seed++) due(sky("...=0f990"), "lots(0, 9, " + seed + ")", 2);
    });
    test(41, "n (1 .. 9)", () -> {
      due(sky("......./.......=0n091"), "lots(0, 1, 7)", 1);
      due(sky("..=0f990"), "lots(0, 9, 7)", 1);
      bad(Due::rich, "lots(0, 0, 1)", "lots(0, 10, 1)", "lots(0, -1, 1)", "lots(0, MIN, 1)", "lots(0, MAX, 1)");
    });
    test(41, "till one is OVER", () -> {
      for (int n = 5; n <= 9; n++) {
        WaxWings x = sky("...####/###.###/####.##/#####.#/######.=0a940");
        due(x, "lots(0, " + n + ", 3)", Math.min(n, 6));
        due(x, "over()", n == 5 ? 0 : 1, 0);
      }
      refused(Due::rich, 0, 0, "lots(1, 1, 1)", "lots(1, 9, 2147483646)");
    });
    test(41, "till one FALLS", () -> {
      WaxWings x = sky("....=9f090");
      due(x, "lots(0, 3, 7)", 1);
      due(x, "flyer(0, 7)", 1, 2);
      x = sky("....=0f990");
      due(x, "lots(0, 9, 7)", 3);
      due(x, "flyer(0, 7)", 1, 3);
      due(x, "count(4)", 3);
    });
    test(41, "till one can do none", () -> {
      refused(() -> sky(".#=0f990"), 0, 0, "lots(0, 9, 5)");
      WaxWings x = sky("..#/##.=0f990");
      due(x, "lots(0, 9, 5)", 2);
      x = sky("..#=0f990");
      due(x, "lots(0, 9, 5)", 1);
      due(x, "flyer(0, 1)", 1, 1);
    });
    test(41, "BEATS of all: they are counted and undone", () -> {
      WaxWings x = rich();
      int done = x.lots(0, 1, 1);
      due("lots(0, 1, 1)", done, 1);
      due(x, "count(4)", 7);
      due(x, "asked()", 4321);
      due(x, "undo(6)", 1);
      dueAlike(x, rich(), "lots(0, 1, 1), undo(6)");
    });
    test(41, "BAD", () -> {
      bad(Due::rich, "lots(-1, 1, 1)", "lots(4, 1, 1)", "lots(MIN, 1, 1)", "lots(MAX, 1, 1)");
      bad(Due::bare, "lots(0, 1, 1)");
    });
    test(41, "BAD ahead of STATE", () -> bad(Due::rich, "lots(2, 0, 1)", "lots(2, 10, 1)", "lots(2, 1, 0)"));
    test(41, "STATE: one FELL", () -> state(Due::rich, "lots(2, 1, 1)", "lots(2, 9, 2147483646)"));
    test(41, "FULL last: with 23 BEATS nine more would not be more than 40", () -> {
      WaxWings x = sky("......./.......=0n091n091n091n091");
      for (int n = 0; n < 6; n++) for (int i = 0; i < 4; i++) if (n < 5 || i < 3) x.beat(i, 1);
      due(x, "count(4)", 23);
      due(x, "lots(3, 9, 1)", 1);
      due(x, "count(4)", 24);
      due(x, "lots(3, 9, 1)", 0);
    });
  }

  static int wrong() {
    plan();
    odds();
    boats();
    drip();
    feathers();
    lots();
    return wrong(35, 41);
  }

  public static void main(String[] args) {
    if (wrong() != 0) System.exit(1);
  }
}
