/** Boundary cases of ROWS and TEXTS: promises 1 to 9, each sentence by a test of its own. */
public final class RowBoundsTest extends Due {
  private static void newObject() {
    test(1, "no ROWS", () -> {
      for (int r = 0; r < 6; r++) found(NOTHING, Due::fresh, "at(" + r + ", 0)", "tear(" + r + ")");
      due(fresh(), "count(6)", 0);
    });
    test(1, "no TEXTS", () -> {
      for (int t = 0; t < 4; t++) found(NOTHING, Due::fresh, "put(" + t + ", 0, 46)", "fault(" + t + ")", "sky(" + t + ")");
      due(fresh(), "count(7)", 0);
    });
    test(1, "no COLUMNS", () -> {
      bad(Due::fresh, "air(0, 0)");
      state(Due::fresh, "sun(0)", "keep(0)", "boats(1, 0)");
      for (int what = 1; what <= 3; what++) due(fresh(), "count(" + what + ")", 0);
    });
    test(1, "no FLYERS", () -> {
      bad(Due::fresh, "flyer(0, 0)", "mark(0, 1)", "letters(0, 0)", "beat(0, 1)", "can(0)", "judge(0, 0)", "soonest(0, 0)",
          "lightest(0, 0)", "ways(0)", "heights(0, 0)", "nth(0, 0, 0)", "wax(0)", "strength(0)", "most(0)", "hottest(0)",
          "kinds(0)", "plan(0, 0, 0)", "odds(0, 0)", "choice(0, 0)", "drip(0, 0)", "feathers(0, 0)", "lots(0, 1, 1)");
      state(Due::fresh, "post(0, 0)");
      due(fresh(), "over()", 0, 0);
      due(fresh(), "count(0)", 0);
      due(fresh(), "count(5)", 0);
    });
    test(1, "no BEATS, no kept SKIES, nothing told, no FINDING", () -> {
      WaxWings x = fresh();
      due(x, "undo(0)", 0);
      due(x, "count(4)", 0);
      due(x, "count(8)", 0);
      due(x, "asked()", 0);
      due(x, "upper()", 0);
      due(x, "lower()", 1);
      due(x, "finding()", 0);
      for (int f = 1; f <= 5; f++) due(x, "findings(" + f + ")", 0);
      for (int k = 0; k < 3; k++) found(NOTHING, Due::fresh, "on(" + k + ")");
    });
    test(1, "what one object holds another does not", () -> {
      rich();
      dueAlike(fresh(), fresh(), "another object");
      due(fresh(), "count(6)", 0);
    });
  }

  private static void row() {
    test(2, "ROWS 0 .. 5", () -> {
      WaxWings x = fresh();
      for (int r = 0; r < 6; r++) { due(x, "row(" + r + ", " + r + ")", r); due(x, "count(6)", r + 1); }
      for (int r = 0; r < 6; r++) dueRow(x, r, new int[r]);
      bad(Due::rich, "row(-1, 1)", "row(6, 1)", "row(MIN, 1)", "row(MAX, 1)");
      bad(Due::fresh, "row(-1, 0)", "row(6, 0)");
    });
    test(2, "rows of 0 to 40 ints: an empty one", () -> {
      WaxWings x = fresh();
      due(x, "row(3, 0)", 0);
      due(x, "count(6)", 1);
      dueRow(x, 3);
    });
    test(2, "rows of 0 to 40 ints: a full one", () -> {
      WaxWings x = fresh();
      due(x, "row(3, 39)", 39);
      due(x, "row(3, 40)", 40);
      dueRow(x, 3, new int[40]);
    });
    test(2, "BAD: also n above 40", () -> bad(Due::rich, "row(2, 41)", "row(1, 41)", "row(2, MAX)", "row(0, 1000)"));
    test(2, "SIZE: below 0", () -> found(SIZE, Due::rich, "row(2, -1)", "row(1, -1)", "row(2, MIN)", "row(4, -40)"));
    test(2, "BAD ahead of SIZE", () -> bad(Due::rich, "row(6, -1)", "row(-1, MIN)", "row(-1, 41)"));
    test(2, "with n ints 0, whatever was there", () -> {
      WaxWings x = fresh();
      row(x, 0, 7, 8, 9);
      due(x, "row(0, 3)", 3);
      dueRow(x, 0, 0, 0, 0);
      row(x, 0, 7, 8, 9);
      run(x, "row(0, 1)", "row(0, 3)");
      dueRow(x, 0, 0, 0, 0);
      row(x, 0, 7, 8, 9);
      run(x, "tear(0)", "row(0, 4)");
      dueRow(x, 0, 0, 0, 0, 0);
      due(x, "count(6)", 1);
    });
  }

  private static void layAndAt() {
    test(3, "place i is v, what it was by asked()", () -> {
      WaxWings x = fresh();
      x.row(0, 40);
      for (String place : new String[] {"0", "39"}) {
        due(x, "lay(0, " + place + ", MIN)", 1, 0);
        due(x, "lay(0, " + place + ", MAX)", 1, LOWEST);
        due(x, "lay(0, " + place + ", -1)", 1, HIGHEST);
        due(x, "lay(0, " + place + ", -1)", 1, -1);
      }
      int[] all = new int[40];
      all[0] = all[39] = -1;
      dueRow(x, 0, all);
    });
    test(3, "BAD", () -> bad(Due::rich, "lay(-1, 0, 1)", "lay(6, 0, 1)", "lay(MIN, 0, 1)", "lay(MAX, 0, 1)", "lay(6, -1, 1)"));
    test(3, "NOTHING", () -> found(NOTHING, Due::rich, "lay(1, 0, 5)", "lay(1, -1, 5)", "lay(1, 40, 5)"));
    test(3, "BEYOND", () -> found(BEYOND, Due::rich, "lay(2, 2, 5)", "lay(2, -1, 5)", "lay(2, MIN, 5)", "lay(2, MAX, 5)",
        "lay(4, 40, 5)", "lay(0, 0, 5)", "lay(2, 39, 5)"));
    test(4, "place i, told by asked()", () -> {
      WaxWings x = rich();
      due(x, "at(2, 0)", 1, 2);
      due(x, "at(4, 39)", 1, 2);
      due(x, "at(4, 38)", 1, 0);
      due(x, "at(3, 2)", 1, -1);
    });
    test(4, "it changes no ROW", () -> {
      WaxWings x = rich(), twin = rich();
      run(x, "at(3, 1)");
      run(x, "lay(4, 1, 4321)", "lay(4, 1, 0)");
      dueAlike(x, twin, "at(3, 1)");
    });
    test(4, "BAD", () -> bad(Due::rich, "at(-1, 0)", "at(6, 0)", "at(MIN, 0)", "at(MAX, 0)", "at(6, -1)"));
    test(4, "NOTHING", () -> found(NOTHING, Due::rich, "at(1, 0)", "at(1, -1)", "at(1, MAX)"));
    test(4, "BEYOND", () -> found(BEYOND, Due::rich, "at(2, 2)", "at(2, -1)", "at(2, MIN)", "at(2, MAX)", "at(4, 40)",
        "at(0, 0)", "at(5, 9)"));
  }

  private static void tear() {
    test(5, "a ROW is missing: 1", () -> {
      for (int r = 0; r < 6; r++) {
        if (r == 1) continue;
        WaxWings x = rich();
        due(x, "tear(" + r + ")", 1);
        due(x, "count(6)", 4);
        due(x, "asked()", 4321);
        due(x, "at(" + r + ", 0)", FINDING);
        due(x, "finding()", NOTHING);
      }
    });
    test(5, "BAD", () -> bad(Due::rich, "tear(-1)", "tear(6)", "tear(MIN)", "tear(MAX)"));
    test(5, "NOTHING", () -> {
      found(NOTHING, Due::rich, "tear(1)");
      found(NOTHING, () -> run(rich(), "tear(2)"), "tear(2)");
    });
  }

  private static void copy() {
    test(6, "n places come to those of another one", () -> {
      WaxWings x = fresh();
      row(x, 0, 1, 2, 3, 4);
      row(x, 5, 9, 9, 9);
      due(x, "copy(0, 2, 5, 0, 2)", 1);
      dueRow(x, 5, 3, 4, 9);
      dueRow(x, 0, 1, 2, 3, 4);
      due(x, "copy(0, 0, 5, 1, 2)", 1);
      dueRow(x, 5, 3, 1, 2);
    });
    test(6, "perhaps itself, as if taken ahead", () -> {
      WaxWings x = fresh();
      row(x, 0, 1, 2, 3, 4, 5);
      due(x, "copy(0, 0, 0, 1, 4)", 1);
      dueRow(x, 0, 1, 1, 2, 3, 4);
      row(x, 0, 1, 2, 3, 4, 5);
      due(x, "copy(0, 1, 0, 0, 4)", 1);
      dueRow(x, 0, 2, 3, 4, 5, 5);
      due(x, "copy(0, 0, 0, 0, 5)", 1);
      dueRow(x, 0, 2, 3, 4, 5, 5);
    });
    test(6, "n places: none, of empty ROWS and at the end too", () -> {
      for (String call : new String[] {"copy(0, 0, 2, 0, 0)", "copy(2, 2, 0, 0, 0)", "copy(4, 40, 5, 9, 0)", "copy(0, 0, 0, 0, 0)"}) {
        refused(Due::rich, 1, 0, call);
      }
    });
    test(6, "n places: all of full ROWS, and the last", () -> {
      WaxWings x = rich();
      x.row(1, 40);
      x.lay(1, 0, 8);
      due(x, "copy(4, 0, 1, 0, 40)", 1);
      int[] all = new int[40];
      all[39] = 2;
      dueRow(x, 1, all);
      due(x, "copy(3, 2, 1, 39, 1)", 1);
      all[39] = -1;
      dueRow(x, 1, all);
    });
    test(6, "BAD", () -> bad(Due::rich, "copy(-1, 0, 2, 0, 1)", "copy(6, 0, 2, 0, 1)", "copy(2, 0, -1, 0, 1)", "copy(2, 0, 6, 0, 1)",
        "copy(MIN, 0, 2, 0, 0)", "copy(2, 0, MAX, 0, 0)"));
    test(6, "SIZE: n below 0", () -> found(SIZE, Due::rich, "copy(2, 0, 4, 0, -1)", "copy(2, 1, 4, 1, MIN)", "copy(2, 2, 2, 2, -2)"));
    test(6, "BAD ahead of SIZE", () -> bad(Due::rich, "copy(6, 0, 2, 0, -1)", "copy(2, 0, -1, 0, -1)"));
    test(6, "SIZE ahead of NOTHING and BEYOND", () -> found(SIZE, Due::rich, "copy(1, 0, 1, 0, -1)", "copy(2, -1, 4, 99, -1)"));
    test(6, "NOTHING: either", () -> found(NOTHING, Due::rich, "copy(1, 0, 2, 0, 1)", "copy(2, 0, 1, 0, 1)", "copy(1, 0, 1, 0, 1)",
        "copy(1, 0, 2, 0, 0)", "copy(2, 0, 1, 0, 0)"));
    test(6, "NOTHING ahead of BEYOND", () -> found(NOTHING, Due::rich, "copy(1, 0, 2, 9, 9)", "copy(2, 9, 1, 0, 9)"));
    test(6, "BEYOND: not so many there, from the first", () -> found(BEYOND, Due::rich, "copy(2, 0, 4, 0, 3)", "copy(2, 1, 4, 0, 2)",
        "copy(2, 2, 4, 0, 1)", "copy(2, 3, 4, 0, 0)", "copy(2, -1, 4, 0, 1)", "copy(2, -1, 4, 0, 0)", "copy(0, 0, 4, 0, 1)"));
    test(6, "BEYOND: not so many there, in the other", () -> found(BEYOND, Due::rich, "copy(4, 0, 2, 0, 3)", "copy(4, 0, 2, 1, 2)",
        "copy(4, 0, 2, 2, 1)", "copy(4, 0, 2, 3, 0)", "copy(4, 0, 2, -1, 1)", "copy(4, 0, 2, -1, 0)", "copy(4, 0, 0, 0, 1)", "copy(4, 0, 4, 1, 40)"));
    test(6, "BEYOND: sums that wrap around", () -> found(BEYOND, Due::rich, "copy(4, MAX, 4, 0, 1)", "copy(4, 0, 4, MAX, 1)",
        "copy(4, 1, 4, 1, MAX)", "copy(4, MAX, 4, MAX, MAX)", "copy(4, MIN, 4, 0, MAX)", "copy(4, 0, 4, MIN, MAX)", "copy(4, MIN, 4, MIN, 0)"));
  }

  private static WaxWings filled(int size, int... v) {
    WaxWings x = fresh();
    x.row(0, size);
    for (int i = 0; i < size; i++) x.lay(0, i, v[i % v.length]);
    return x;
  }

  private static void mean() {
    test(7, "the mean, cut: towards 0", () -> {
      due(filled(2, 3, 4), "mean(0)", 1, 3);
      due(filled(2, -3, -4), "mean(0)", 1, -3);
      due(filled(2, 1, 0), "mean(0)", 1, 0);
      due(filled(2, -1, 0), "mean(0)", 1, 0);
      due(filled(3, -1, -1, -3), "mean(0)", 1, -1);
      due(filled(3, 5, 5, 4), "mean(0)", 1, 4);
    });
    test(7, "of one int", () -> {
      due(filled(1, HIGHEST), "mean(0)", 1, HIGHEST);
      due(filled(1, LOWEST), "mean(0)", 1, LOWEST);
      due(filled(1, 0), "mean(0)", 1, 0);
    });
    test(7, "sums beyond an int do not wrap around", () -> {
      due(filled(40, HIGHEST), "mean(0)", 1, HIGHEST);
      due(filled(40, LOWEST), "mean(0)", 1, LOWEST);
      due(filled(2, HIGHEST, 1), "mean(0)", 1, 1073741824);
      due(filled(2, LOWEST, -2), "mean(0)", 1, -1073741825);
      due(filled(2, HIGHEST, LOWEST), "mean(0)", 1, 0);
    });
    test(7, "of a full ROW", () -> {
      WaxWings x = filled(40, 0);
      x.lay(0, 39, 40);
      due(x, "mean(0)", 1, 1);
      x.lay(0, 39, 39);
      due(x, "mean(0)", 1, 0);
      x.lay(0, 39, -40);
      due(x, "mean(0)", 1, -1);
    });
    test(7, "BAD", () -> bad(Due::rich, "mean(-1)", "mean(6)", "mean(MIN)", "mean(MAX)"));
    test(7, "NOTHING", () -> found(NOTHING, Due::rich, "mean(1)"));
    test(7, "NOUGHT", () -> found(NOUGHT, Due::rich, "mean(0)"));
  }

  private static void text() {
    test(8, "TEXTS 0 .. 3", () -> {
      WaxWings x = fresh();
      for (int t = 0; t < 4; t++) { due(x, "text(" + t + ", " + t + ")", t); due(x, "count(7)", t + 1); }
      bad(Due::rich, "text(-1, 1)", "text(4, 1)", "text(MIN, 1)", "text(MAX, 1)");
    });
    test(8, "rows of 0 to 80 bytes: an empty one", () -> {
      WaxWings x = fresh();
      due(x, "text(0, 0)", 0);
      due(x, "count(7)", 1);
      due(x, "put(0, 0, 1)", FINDING);
      due(x, "finding()", BEYOND);
    });
    test(8, "rows of 0 to 80 bytes: a full one", () -> {
      WaxWings x = fresh();
      due(x, "text(0, 79)", 79);
      due(x, "text(0, 80)", 80);
      for (int i = 0; i < 80; i++) due(x, "put(0, " + i + ", 1)", 1032);
      due(x, "put(0, 80, 1)", FINDING);
    });
    test(8, "BAD: also n above 80", () -> bad(Due::rich, "text(0, 81)", "text(3, 81)", "text(0, MAX)"));
    test(8, "SIZE: below 0", () -> found(SIZE, Due::rich, "text(0, -1)", "text(3, -1)", "text(0, MIN)"));
    test(8, "BAD ahead of SIZE", () -> bad(Due::rich, "text(4, -1)", "text(-1, MIN)", "text(-1, 81)"));
    test(8, "with n blanks, whatever was there", () -> {
      WaxWings x = fresh();
      text(x, 0, "abc");
      due(x, "text(0, 3)", 3);
      for (int i = 0; i < 3; i++) due(x, "put(0, " + i + ", 97)", 1032);
      run(x, "text(0, 1)", "text(0, 3)");
      for (int i = 0; i < 3; i++) due(x, "put(0, " + i + ", 97)", 1032);
      due(x, "count(7)", 1);
    });
  }

  private static void put() {
    test(9, "v, cut to a byte: what it was, and 1000 more", () -> {
      int[] put = {127, 128, 255, 256, 257, -1, -128, -129, HIGHEST, LOWEST, 32, 65536 + 46};
      int[] then = {1127, 872, 999, 1000, 1001, 999, 872, 1127, 999, 1000, 1032, 1046};
      WaxWings x = fresh();
      x.text(1, 80);
      for (int place = 0; place < 80; place += 79) {
        long was = 1032;
        for (int n = 0; n < put.length; n++) {
          due(x, "put(1, " + place + ", " + put[n] + ")", was);
          was = then[n];
        }
      }
      due(x, "put(1, 78, 0)", 1032);
      due(x, "asked()", 0);
    });
    test(9, "BAD", () -> bad(Due::rich, "put(-1, 0, 1)", "put(4, 0, 1)", "put(MIN, 0, 1)", "put(MAX, 0, 1)", "put(4, -1, 1)"));
    test(9, "NOTHING", () -> found(NOTHING, Due::rich, "put(3, 0, 1)", "put(3, -1, 1)", "put(3, 80, 1)"));
    test(9, "BEYOND", () -> {
      found(BEYOND, Due::rich, "put(1, 12, 1)", "put(1, -1, 1)", "put(1, MIN, 1)", "put(1, MAX, 1)", "put(2, 0, 1)", "put(1, 79, 1)");
      found(BEYOND, () -> run(rich(), "text(3, 80)"), "put(3, 80, 1)");
    });
    test(9, "a TEXT's bytes are no other's", () -> {
      WaxWings x = fresh();
      for (int t = 0; t < 4; t++) x.text(t, 2);
      due(x, "put(2, 1, 5)", 1032);
      for (int t = 0; t < 4; t++) due(x, "put(" + t + ", 1, 0)", t == 2 ? 1005 : 1032);
      due(x, "put(2, 0, 0)", 1032);
    });
  }

  static int wrong() {
    newObject();
    row();
    layAndAt();
    tear();
    copy();
    mean();
    text();
    put();
    return wrong(1, 9);
  }

  public static void main(String[] args) {
    if (wrong() != 0) System.exit(1);
  }
}
