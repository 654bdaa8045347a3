/** Boundary cases of BEATS, done, undone and kept: promises 17 to 22, each sentence by a test of its own. */
public final class BeatBoundsTest extends Due {
  private static final String LETTERS = "foblna";

  /** Four who can do six BEATS each, the most there can be. */
  private static WaxWings busy() {
    WaxWings x = sky("......./.......=0n091n091n091n091");
    for (int n = 0; n < 6; n++) for (int i = 0; i < 4; i++) x.beat(i, 1);
    return x;
  }

  private static void moves() {
    test(17, "UP, LEVEL, DOWN: the HEIGHT 1 more, as it was, 1 less, the COLUMN 1 more", () -> {
      for (int b = 0; b < 3; b++) {
        WaxWings x = sky(".../.../...=0f991");
        due(x, "beat(0, " + b + ")", 0);
        dueFlyer(x, 0, 0, 1, b);
        due(x, "count(4)", 1);
      }
    });
    test(17, "2 more, if one leaves a WIND", () -> {
      for (int b = 0; b < 3; b++) {
        WaxWings x = sky(".#../>#../.#..=0f991");
        due(x, "beat(0, " + b + ")", 0);
        dueFlyer(x, 0, 0, 2, b);
      }
      WaxWings x = sky("..../.>../....=0f991");
      due(x, "beat(0, 1)", 0);
      dueFlyer(x, 0, 0, 1, 1);
    });
    test(17, "the last one at most", () -> {
      WaxWings x = sky(">./..=0f990");
      due(x, "beat(0, 1)", 0);
      dueFlyer(x, 0, 0, 1, 0);
      x = sky("..>./....=0n990");
      run(x, "beat(0, 1)", "beat(0, 1)");
      due(x, "beat(0, 2)", 0);
      dueFlyer(x, 0, 4, 3, 1);
    });
    test(17, "it can't be, if there is no such HEIGHT", () -> {
      state(() -> sky(".../...=0f991"), "beat(0, 2)");
      state(() -> sky(".../...=0f990"), "beat(0, 0)");
      state(() -> sky("...=0f990"), "beat(0, 0)", "beat(0, 2)");
      state(() -> sky("../../../../..=0f994"), "beat(0, 2)");
    });
    test(17, "it can't be, if a ROCK is where one comes to", () -> {
      state(() -> sky(".#./.#./.#.=0f991"), "beat(0, 0)", "beat(0, 1)", "beat(0, 2)");
      state(() -> sky("..#./>.#./..#.=0f991"), "beat(0, 0)", "beat(0, 1)", "beat(0, 2)");
      state(() -> run(sky("..#/.>#/..#=0f991"), "beat(0, 1)"), "beat(0, 0)", "beat(0, 1)", "beat(0, 2)");
    });
    test(17, "STATE: one is OVER", () -> state(Due::rich, "beat(1, 0)", "beat(1, 1)", "beat(1, 2)"));
    test(17, "STATE: one FELL", () -> state(Due::rich, "beat(2, 0)", "beat(2, 1)", "beat(2, 2)"));
    test(17, "BAD", () -> {
      bad(Due::rich, "beat(0, -1)", "beat(0, 3)", "beat(0, MIN)", "beat(0, MAX)", "beat(-1, 1)", "beat(4, 1)", "beat(MIN, 1)", "beat(MAX, 1)");
      bad(Due::bare, "beat(0, 1)");
    });
    test(17, "BAD ahead of STATE", () -> bad(Due::rich, "beat(1, 3)", "beat(2, -1)"));
    test(17, "FULL last: 24 BEATS are the most that can be", () -> {
      due(busy(), "count(4)", 24);
      due(busy(), "over()", 15, 0);
      state(BeatBoundsTest::busy, "beat(0, 1)", "beat(3, 0)");
    });
  }

  private static void costs() {
    test(17, "what it COSTS", () -> {
      int[][] none = {{0, 1, 2}, {0, 0, 3}, {0, 1, 2}, {0, 1, 2}, {0, 0, 3}, {0, 0, 1}};
      int[][] three = {{0, 1, 5}, {0, 0, 6}, {0, 1, 5}, {0, 4, 5}, {0, 0, 6}, {0, 3, 4}};
      for (int kind = 0; kind < 6; kind++) for (int b = 0; b < 3; b++) {
        WaxWings x = sky("../../..=0" + LETTERS.charAt(kind) + "991");
        x.beat(0, b);
        due(x, "flyer(0, 3)", 1, 9 - none[kind][b]);
        x.undo(0);
        x.letters(0, 3);
        x.beat(0, b);
        due(x, "flyer(0, 3)", 1, 9 - three[kind][b]);
      }
    });
    test(17, "an ABREAST one each 1 less, 0 at least", () -> {
      WaxWings x = sky("../../..=0a901");
      due(x, "beat(0, 0)", 0);
      due(x, "flyer(0, 3)", 1, 0);
      x.undo(0);
      due(x, "beat(0, 1)", 0);
      due(x, "flyer(0, 3)", 1, 0);
      x.undo(0);
      due(x, "beat(0, 2)", 1);
      due(x, "flyer(0, 3)", 1, -1);
    });
    test(17, "leaving a THERMAL it COSTS 0", () -> {
      for (int kind = 0; kind < 6; kind++) for (int b = 0; b < 3; b++) {
        WaxWings x = sky("../g./..=0" + LETTERS.charAt(kind) + "901");
        x.letters(0, 3);
        due(x, "beat(0, " + b + ")", 0);
        due(x, "flyer(0, 3)", 1, 0);
      }
    });
    test(17, "coming to a THERMAL it COSTS as ever", () -> {
      WaxWings x = sky("ggg/.gg/ggg=0f991");
      due(x, "beat(0, 1)", 0);
      due(x, "flyer(0, 3)", 1, 8);
      due(x, "beat(0, 2)", 0);
      due(x, "flyer(0, 3)", 1, 8);
    });
    test(17, "one FALLS by 1: STRENGTH below 0, not 0", () -> {
      WaxWings x = sky("../..=0f910f920f911f900");
      due(x, "beat(0, 2)", 1);
      due(x, "beat(1, 2)", 0);
      due(x, "beat(2, 1)", 0);
      due(x, "beat(3, 1)", 1);
      for (int i = 0; i < 4; i++) due(x, "flyer(" + i + ", 3)", 1, i == 0 || i == 3 ? -1 : 0);
      due(x, "over()", 6, 9);
    });
  }

  private static void heat() {
    test(17, "HEAT grows by the HEIGHT and the SUN, less 4, if that is above 0", () -> {
      for (int h = 0; h < 5; h++) for (int sun = 0; sun <= 9; sun++) {
        WaxWings x = sky("../../../../..=" + sun + "f99" + h);
        int more = h + sun <= 4 ? 0 : h + sun - 4;
        due(x, "beat(0, 1)", 0);
        due(x, "flyer(0, 4)", 1, more);
      }
    });
    test(17, "FIRST: by twice as much; NIGHT: not", () -> {
      for (int sun = 0; sun <= 9; sun++) {
        WaxWings x = sky("../..=" + sun + "b991n091");
        int more = sun <= 3 ? 0 : 2 * (sun - 3);
        due(x, "beat(0, 1)", more > 9 ? 2 : 0);
        due(x, "flyer(0, 4)", 1, more);
        due(x, "beat(1, 1)", 0);
        due(x, "flyer(1, 4)", 1, 0);
      }
    });
    test(17, "where one comes to: not by the HEIGHT that one leaves", () -> {
      WaxWings x = sky("../../..=4f992f991");
      x.beat(0, 0);
      due(x, "flyer(0, 4)", 1, 1);
      x.beat(1, 2);
      due(x, "flyer(1, 4)", 1, 2);
    });
    test(17, "in a CLOUD not, but it is 1 less there", () -> {
      for (String letter : new String[] {"f", "b"}) {
        WaxWings x = sky(".../..c=5" + letter + "991");
        x.beat(0, 1);
        int hot = letter.equals("b") ? 4 : 2;
        due(x, "flyer(0, 4)", 1, hot);
        x.sun(9);
        due(x, "beat(0, 1)", 0);
        due(x, "flyer(0, 4)", 1, hot - 1);
      }
    });
    test(17, "0 at least", () -> {
      WaxWings x = sky(".cc/.cc=9f091n091");
      run(x, "beat(0, 1)", "beat(1, 1)");
      due(x, "beat(0, 1)", 0);
      due(x, "flyer(0, 4)", 1, 0);
      due(x, "beat(1, 1)", 0);
      due(x, "flyer(1, 4)", 1, 0);
      // from 1 to 0, and there it stays
      x = sky(".....c/...cc.=5f990");
      run(x, "beat(0, 1)", "beat(0, 1)");
      due(x, "flyer(0, 4)", 1, 2);
      run(x, "beat(0, 2)");
      due(x, "flyer(0, 4)", 1, 1);
      run(x, "beat(0, 1)");
      due(x, "flyer(0, 4)", 1, 0);
      due(x, "beat(0, 0)", 0);
      due(x, "flyer(0, 4)", 1, 0);
    });
    test(17, "one FALLS by 2: HEAT above the WAX, not as much", () -> {
      WaxWings x = sky("../..=6f291f391b591b691");
      due(x, "beat(0, 1)", 2);
      due(x, "beat(1, 1)", 0);
      due(x, "beat(2, 1)", 2);
      due(x, "beat(3, 1)", 0);
      x = sky("../..=4f091f091");
      due(x, "beat(0, 1)", 2);
      due(x, "beat(1, 0)", 0);
    });
  }

  private static void clog() {
    test(17, "CLOG grows by 1 at HEIGHT 0", () -> {
      for (char sign : ".cg>s".toCharArray()) {
        WaxWings x = sky("." + sign + ".=0f990");
        due(x, "beat(0, 1)", 0);
        due(x, "flyer(0, 5)", 1, 1);
      }
    });
    test(17, "CLOG grows by 1 in SPRAY", () -> {
      WaxWings x = sky("..../.sss/....=0n991");
      due(x, "beat(0, 1)", 0);
      due(x, "flyer(0, 5)", 1, 1);
      due(x, "beat(0, 1)", 0);
      due(x, "flyer(0, 5)", 1, 2);
      due(x, "beat(0, 1)", 3);
      due(x, "flyer(0, 5)", 1, 3);
    });
    test(17, "not where one begins, whatever is there", () -> {
      WaxWings x = sky("s./..=9f990");
      due(x, "flyer(0, 5)", 1, 0);
      due(x, "flyer(0, 4)", 1, 0);
      x.beat(0, 2);
      due(x, "flyer(0, 5)", 1, 0);
    });
    test(17, "else it is 1 less, 0 at least", () -> {
      WaxWings x = sky("....../......=0n990");
      run(x, "beat(0, 1)", "beat(0, 1)");
      due(x, "flyer(0, 5)", 1, 2);
      int[] want = {1, 0, 0};
      for (int n = 0; n < 3; n++) {
        due(x, "beat(0, " + (n == 0 ? 2 : 1) + ")", 0);
        due(x, "flyer(0, 5)", 1, want[n]);
      }
    });
    test(17, "one FALLS by 3: CLOG above 2, not 2", () -> {
      WaxWings x = sky("....=0f990");
      due(x, "beat(0, 1)", 0);
      due(x, "beat(0, 1)", 0);
      due(x, "beat(0, 1)", 3);
      dueFlyer(x, 0, 0, 3, 0, 6, 0, 3, 0, 3);
    });
    test(17, "the first of these: 1 ahead of 2 ahead of 3", () -> {
      WaxWings x = sky("..../....=4f020f990");
      run(x, "beat(0, 1)", "beat(0, 1)", "beat(1, 1)", "beat(1, 1)");
      x.sun(9);
      due(x, "can(0)", 6, 6);
      due(x, "beat(0, 1)", 1);
      dueFlyer(x, 0, 0, 3, 0, -1, 5, 3, 0, 1);
      x = sky("..../....=4f930f030");
      run(x, "beat(0, 1)", "beat(0, 1)", "beat(1, 1)", "beat(1, 1)");
      due(x, "beat(0, 1)", 3);
      x.sun(5);
      due(x, "beat(1, 1)", 2);
      dueFlyer(x, 1, 0, 3, 0, 0, 1, 3, 0, 2);
      x = sky("../..=9f000");
      due(x, "beat(0, 2)", 1);
      x = sky("....=0f920");
      run(x, "beat(0, 1)", "beat(0, 1)");
      due(x, "beat(0, 1)", 1);
    });
    test(17, "one who FALLS is there, all of it told", () -> {
      WaxWings x = sky(".../...=9f990b191");
      due(x, "beat(1, 0)", 2);
      dueFlyer(x, 1, 2, 1, 0, 9, 10, 1, 0, 2);
      due(x, "count(4)", 1);
      due(x, "beat(0, 1)", 0);
    });
  }

  private static void undo() {
    test(18, "from number n on: all, some, the last, none", () -> {
      int[][] columns = {{0, 0, 0, 0}, {1, 0, 0, 0}, {1, 1, 0, 0}, {1, 3, 0, 0}, {1, 4, 0, 0}, {1, 4, 1, 0}, {2, 4, 1, 0}};
      for (int n = 0; n <= 6; n++) {
        WaxWings x = rich();
        due(x, "undo(" + n + ")", 6 - n);
        due(x, "count(4)", n);
        for (int i = 0; i < 4; i++) due(x, "flyer(" + i + ", 1)", 1, columns[n][i]);
      }
    });
    test(18, "from the number of BEATS on: none", () -> {
      refused(Due::rich, 0, 0, "undo(6)");
      refused(Due::fresh, 0, 0, "undo(0)");
      refused(Due::bare, 0, 0, "undo(0)");
      refused(BeatBoundsTest::busy, 0, 0, "undo(24)");
    });
    test(18, "BAD", () -> {
      bad(Due::rich, "undo(-1)", "undo(7)", "undo(MIN)", "undo(MAX)", "undo(40)");
      bad(Due::fresh, "undo(1)", "undo(-1)");
      bad(BeatBoundsTest::busy, "undo(25)");
    });
    test(18, "all that a BEAT did is undone", () -> {
      WaxWings x = rich();
      dueFlyer(x, 0, 0, 2, 0, 8, 4, 1, 1, 0);
      due(x, "undo(5)", 1);
      dueFlyer(x, 0, 0, 1, 1, 8, 2, 0, 1, 0);
      due(x, "undo(4)", 1);
      dueFlyer(x, 2, 2, 0, 0, 9, 0, 0, 0, 0);
      due(x, "can(2)", 6, 6);
      due(x, "undo(0)", 4);
      dueFlyer(x, 0, 0, 0, 1, 9, 0, 0, 1, 0);
      dueFlyer(x, 1, 4, 0, 1, 9, 0, 0, 0, 0);
    });
    test(18, "BEATS alone: LETTERS and the SUN stay", () -> {
      WaxWings x = rich();
      due(x, "undo(0)", 6);
      due(x, "count(3)", 6);
      due(x, "flyer(0, 6)", 1, 1);
      due(x, "flyer(3, 6)", 1, 1);
      due(x, "count(8)", 2);
    });
    test(18, "BEATS done then count anew", () -> {
      WaxWings x = rich();
      run(x, "undo(2)");
      due(x, "beat(3, 2)", 0);
      due(x, "count(4)", 3);
      due(x, "undo(2)", 1);
      dueFlyer(x, 3, 5, 0, 0, 6, 0, 0, 1, 0);
      due(x, "undo(0)", 2);
    });
    test(18, "24 BEATS", () -> {
      due(busy(), "undo(0)", 24);
      due(busy(), "undo(23)", 1);
      WaxWings x = busy();
      run(x, "undo(5)");
      for (int i = 0; i < 4; i++) due(x, "flyer(" + i + ", 1)", 1, i == 0 ? 2 : 1);
    });
    test(18, "BEATS by LOTS are undone alike", () -> {
      WaxWings x = sky("....../......=0n990");
      int n = x.lots(0, 9, 1);
      due(x, "undo(1)", n - 1);
      due(x, "flyer(0, 1)", 1, 1);
    });
  }

  private static void overAndCan() {
    test(19, "OVER, and fell nowhere; that FELL by asked()", () -> {
      due(rich(), "over()", 2, 4);
      due(fresh(), "over()", 0, 0);
      due(bare(), "over()", 0, 0);
      due(busy(), "over()", 15, 0);
    });
    test(19, "one who FELL in the last COLUMN is not OVER", () -> {
      WaxWings x = sky("../..=9f091n091");
      run(x, "beat(0, 1)", "beat(1, 1)");
      due(x, "flyer(0, 1)", 1, 1);
      due(x, "over()", 2, 1);
    });
    test(19, "all four FELL", () -> {
      WaxWings x = sky("../..=9f091f090o091b091");
      for (int i = 0; i < 4; i++) x.beat(i, 1);
      due(x, "over()", 0, 15);
      x.undo(3);
      due(x, "over()", 0, 7);
    });
    test(19, "it changes nothing else", () -> {
      WaxWings x = rich();
      x.over();
      run(x, "lay(4, 1, 4321)", "lay(4, 1, 0)");
      dueAlike(x, rich(), "over()");
    });
    test(20, "BEATS that one can do; those behind which one FALLS", () -> {
      due(sky(".../.../...=0f991"), "can(0)", 7, 0);
      due(sky(".../.../...=9f091"), "can(0)", 7, 7);
      due(sky(".../.../...=0f911"), "can(0)", 7, 4);
      due(sky(".../.../...=3f091"), "can(0)", 7, 4);
      due(sky(".../.../...=0f901"), "can(0)", 7, 6);
      WaxWings x = run(sky("....=0f990"), "beat(0, 1)", "beat(0, 1)");
      due(x, "can(0)", 2, 2);
    });
    test(20, "no such HEIGHT, a ROCK", () -> {
      due(sky(".../...=0f990"), "can(0)", 6, 0);
      due(sky(".../...=0f991"), "can(0)", 3, 0);
      due(sky("...=0f990"), "can(0)", 2, 0);
      due(sky(".#=0f990"), "can(0)", 0, 0);
      due(sky(".#./.#./.#.=9f091"), "can(0)", 0, 0);
      due(sky("..../>.#./....=0f991"), "can(0)", 5, 0);
    });
    test(20, "0: one FELL, is OVER", () -> {
      due(rich(), "can(1)", 0, 0);
      due(rich(), "can(2)", 0, 0);
    });
    test(20, "BAD", () -> {
      bad(Due::rich, "can(-1)", "can(4)", "can(MIN)", "can(MAX)");
      bad(Due::bare, "can(0)");
    });
    test(20, "aside", () -> {
      WaxWings x = rich();
      x.can(0);
      x.can(3);
      run(x, "lay(4, 1, 4321)", "lay(4, 1, 0)");
      dueAlike(x, rich(), "can(0)");
    });
  }

  private static void kept() {
    test(21, "a place (0 .. 2)", () -> {
      WaxWings x = bare();
      for (int k = 0; k < 3; k++) { due(x, "keep(" + k + ")", 0); due(x, "count(8)", k + 1); }
      due(x, "keep(2)", 0);
      due(x, "count(8)", 3);
      bad(Due::rich, "keep(-1)", "keep(3)", "keep(MIN)", "keep(MAX)");
    });
    test(21, "how many BEATS", () -> {
      due(rich(), "keep(1)", 6);
      due(busy(), "keep(0)", 24);
      due(bare(), "keep(0)", 0);
    });
    test(21, "STATE: no COLUMNS", () -> state(Due::fresh, "keep(0)", "keep(1)", "keep(2)"));
    test(21, "BAD ahead of STATE", () -> bad(Due::fresh, "keep(-1)", "keep(3)"));
    test(21, "what was kept there goes", () -> {
      WaxWings x = rich();
      due(x, "keep(0)", 6);
      x.undo(0);
      due(x, "on(0)", 6);
      dueFlyer(x, 0, 0, 2, 0, 8, 4, 1, 1, 0);
    });
    test(22, "FLYERS, LETTERS, the SUN, BEATS as they were", () -> {
      WaxWings x = rich();
      due(x, "on(2)", 5);
      due(x, "count(3)", 5);
      due(x, "count(4)", 5);
      dueFlyer(x, 0, 0, 1, 1, 8, 2, 0, 2, 0);
      dueFlyer(x, 1, 4, 4, 1, 6, 0, 0, 0, 0);
      dueFlyer(x, 2, 2, 1, 1, 7, 4, 0, 0, 2);
      due(x, "on(0)", 2);
      dueFlyer(x, 0, 0, 1, 1, 8, 2, 0, 2, 0);
      dueFlyer(x, 1, 4, 1, 2, 6, 0, 0, 0, 0);
      dueFlyer(x, 2, 2, 0, 0, 9, 0, 0, 0, 0);
      due(x, "undo(0)", 2);
      dueFlyer(x, 0, 0, 0, 1, 9, 0, 0, 2, 0);
    });
    test(22, "what is kept stays, whatever comes then", () -> {
      WaxWings x = rich();
      due(x, "on(0)", 2);
      run(x, "undo(0)", "beat(3, 2)", "sun(0)", "letters(0, 0)", "letters(1, 3)");
      due(x, "on(0)", 2);
      due(x, "count(3)", 5);
      dueFlyer(x, 0, 0, 1, 1, 8, 2, 0, 2, 0);
      dueFlyer(x, 1, 4, 1, 2, 6, 0, 0, 0, 0);
      dueFlyer(x, 3, 5, 0, 0, 6, 0, 0, 1, 0);
      due(x, "undo(1)", 1);
      dueFlyer(x, 1, 4, 0, 1, 9, 0, 0, 0, 0);
      due(x, "undo(0)", 1);
      dueFlyer(x, 0, 0, 0, 1, 9, 0, 0, 2, 0);
      dueFlyer(x, 3, 5, 0, 0, 6, 0, 0, 1, 0);
      due(x, "count(8)", 2);
      due(x, "on(2)", 5);
    });
    test(22, "what each BEAT of a kept SKY was, with others done since", () -> {
      WaxWings x = rich();
      run(x, "undo(0)", "beat(3, 1)", "beat(3, 1)", "beat(2, 1)", "beat(0, 0)", "beat(1, 1)", "beat(1, 1)");
      due(x, "on(2)", 5);
      int[][] columns = {{0, 0, 0, 0}, {1, 0, 0, 0}, {1, 1, 0, 0}, {1, 3, 0, 0}, {1, 4, 0, 0}};
      int[][] heights = {{1, 1, 0, 0}, {1, 1, 0, 0}, {1, 2, 0, 0}, {1, 1, 0, 0}, {1, 1, 0, 0}};
      for (int n = 4; n >= 0; n--) {
        due(x, "undo(" + n + ")", 1);
        for (int i = 0; i < 4; i++) {
          due(x, "flyer(" + i + ", 1)", 1, columns[n][i]);
          due(x, "flyer(" + i + ", 2)", 1, heights[n][i]);
        }
      }
    });
    test(22, "ROWS, TEXTS, what was told stay as they are now", () -> {
      WaxWings x = rich();
      run(x, "row(1, 1)", "text(3, 7)", "tear(2)");
      due(x, "on(0)", 2, 4321);
      due(x, "upper()", 7);
      due(x, "lower()", 12);
      dueRow(x, 1, 0);
      due(x, "count(6)", 5);
      due(x, "count(7)", 4);
    });
    test(22, "on from 24 BEATS, from a SKY without FLYERS", () -> {
      WaxWings x = busy();
      run(x, "keep(1)", "undo(0)");
      due(x, "on(1)", 24);
      due(x, "undo(0)", 24);
      x = bare();
      run(x, "keep(1)", "sun(9)");
      due(x, "on(1)", 0);
      due(x, "count(3)", 3);
      due(x, "count(0)", 0);
    });
    test(22, "BAD", () -> bad(Due::rich, "on(-1)", "on(3)", "on(MIN)", "on(MAX)"));
    test(22, "NOTHING", () -> {
      found(NOTHING, Due::rich, "on(1)");
      found(NOTHING, Due::fresh, "on(0)", "on(1)", "on(2)");
      found(NOTHING, () -> run(rich(), "sky(0)"), "on(0)", "on(2)");
    });
  }

  static int wrong() {
    moves();
    costs();
    heat();
    clog();
    undo();
    overAndCan();
    kept();
    return wrong(17, 22);
  }

  public static void main(String[] args) {
    if (wrong() != 0) System.exit(1);
  }
}
