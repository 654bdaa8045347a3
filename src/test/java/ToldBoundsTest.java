import java.lang.reflect.Method;
import java.lang.reflect.Modifier;
import java.util.ArrayList;
import java.util.List;
import java.util.function.Supplier;

/** Boundary cases of what is told: promises 42 to 48, each sentence by a test of its own; and of no call's throwing. */
public final class ToldBoundsTest extends Due {
  private static final String SKY = "  ...s./.g.../.>.#.=5f991n091b290a660 ";
  /** Calls that are answered by rich(), and tell asked() nothing. */
  private static final String[] SILENT = {"row(1, 3)", "tear(2)", "copy(2, 0, 4, 0, 2)", "text(3, 5)", "put(0, 0, 32)", "fault(0)", "fault(1)",
      "sky(0)", "mark(1, 1)", "air(0, 0)", "sun(3)", "letters(0, 2)", "beat(3, 2)", "undo(6)", "undo(0)", "keep(1)", "on(0)", "soonest(0, 1)",
      "lightest(0, 1)", "ways(0)", "nth(0, 1, 1)", "wax(0)", "strength(0)", "most(0)", "hottest(0)", "kinds(0)", "post(4, 1)", "plan(0, 2, 5)",
      "odds(0, 5)", "choice(0, 5)", "boats(3, 1)", "lots(0, 1, 1)", "upper()", "lower()", "count(0)", "finding()", "findings(1)", "digest()",
      "asked()"};
  /** Calls that are answered by rich(), and what asked() tells then. */
  private static final String[] ASKING = {"lay(3, 1, 9)", "at(3, 2)", "mean(3)", "flyer(0, 3)", "over()", "can(0)", "judge(0, 2)", "judge(0, 4)",
      "heights(0, 3)", "drip(0, 2)", "feathers(0, 24)", "feathers(1, 0)"};
  private static final int[] ASKED = {7, -1, 2, 8, 4, 0, 0, 0, 0, 7, 3, 0};
  /** Calls that tell upper() and lower(), and what. */
  private static final String[] CHANCES = {"ways(0)", "ways(3)", "plan(0, 2, 3)", "plan(3, 2, 3)", "odds(0, 5)", "odds(3, 5)", "feathers(0, 24)",
      "feathers(0, 0)"};
  private static final int[] UPPER = {2, 0, 3, 0, 1, 0, 2, 0}, LOWER = {1, 1, 4, 1, 1, 1, 1, 1};
  /** Calls that rich() refuses, or answers by NONE: BAD, STATE, each FINDING. */
  private static final String[] REFUSED = {"row(6, 1)", "lay(6, 0, 0)", "at(6, 0)", "mean(6)", "flyer(4, 0)", "can(4)", "judge(4, 2)",
      "heights(0, 5)", "drip(4, 2)", "feathers(0, 32)", "ways(4)", "plan(0, 2, 13)", "odds(0, 13)", "judge(2, 2)", "heights(2, 3)", "drip(2, 2)",
      "feathers(2, 0)", "ways(2)", "plan(2, 2, 5)", "odds(2, 5)", "beat(1, 1)", "sky(1)"};
  private static final String[] NOT_SO = {"drip(0, 0)", "drip(1, 2)", "choice(3, 5)", "soonest(3, 1)", "lightest(3, 1)", "strength(3)", "most(3)",
      "post(7, 1)"};
  private static final String[] FOUND = {"lay(1, 0, 0)", "at(1, 0)", "mean(1)", "judge(0, 1)", "drip(0, 1)", "plan(0, 1, 5)", "at(2, 2)",
      "lay(2, 2, 0)", "judge(0, 3)", "drip(0, 3)", "plan(0, 3, 5)", "mark(0, 1)", "mean(0)", "nth(0, 2, 1)", "row(2, -1)", "plan(0, 5, 5)"};
  private static final int[] FINDINGS = {1, 1, 1, 1, 1, 1, 2, 2, 3, 3, 3, 3, 4, 4, 5, 5};

  private static void asked() {
    test(42, "0 before", () -> {
      due(fresh(), "asked()", 0);
      due(run(fresh(), "row(0, 1)", "at(0, 1)", "mean(1)", "flyer(0, 0)"), "asked()", 0);
      due(bare(), "asked()", 0);
    });
    test(42, "what each of these told", () -> {
      for (int n = 0; n < ASKING.length; n++) {
        WaxWings x = rich();
        call(x, ASKING[n]);
        due("asked() behind " + ASKING[n], x.asked(), ASKED[n]);
        due("asked() once more behind " + ASKING[n], x.asked(), ASKED[n]);
      }
    });
    test(42, "the latest", () -> {
      WaxWings x = rich();
      for (int n = ASKING.length - 1; n >= 0; n--) {
        call(x, ASKING[n]);
        due("asked() behind " + ASKING[n], x.asked(), ASKED[n]);
      }
    });
    test(42, "that was not refused", () -> {
      for (String call : REFUSED) due(run(rich(), call), "asked()", 4321);
      for (String call : FOUND) due(run(rich(), call), "asked()", 4321);
    });
    test(42, "nor NONE", () -> {
      for (String call : NOT_SO) { due(rich(), call, NONE); due(run(rich(), call), "asked()", 4321); }
    });
    test(42, "no other call's", () -> {
      for (String call : SILENT) due(run(rich(), call), "asked()", 4321);
    });
  }

  private static void chances() {
    test(43, "0 before", () -> due(fresh(), "upper()", 0));
    test(44, "1 before", () -> due(fresh(), "lower()", 1));
    test(43, "told last", () -> {
      WaxWings x = rich();
      for (int n = 0; n < CHANCES.length; n++) {
        call(x, CHANCES[n]);
        due("upper() behind " + CHANCES[n], x.upper(), UPPER[n]);
      }
    });
    test(44, "its lower number, above 0 (0 by 1)", () -> {
      WaxWings x = rich();
      for (int n = 0; n < CHANCES.length; n++) {
        call(x, CHANCES[n]);
        due("lower() behind " + CHANCES[n], x.lower(), LOWER[n]);
      }
    });
    for (int promise = 43; promise <= 44; promise++) {
      String told = promise == 43 ? "upper()" : "lower()";
      int want = promise == 43 ? 7 : 12;
      test(promise, "what is refused, or NONE, tells none", () -> {
        for (String call : REFUSED) due(run(rich(), call), told, want);
        for (String call : FOUND) due(run(rich(), call), told, want);
        for (String call : NOT_SO) due(run(rich(), call), told, want);
      });
      test(promise, "no other call tells one", () -> {
        for (String call : SILENT) if (!call.matches("(ways|odds|plan).*")) due(run(rich(), call), told, want);
        for (String call : ASKING) if (!call.startsWith("feathers")) due(run(rich(), call), told, want);
      });
    }
  }

  private static void dueCount(Supplier<WaxWings> begin, int what, int want, String... calls) {
    due(run(begin.get(), calls), "count(" + what + ")", want);
  }

  private static void count() {
    int[] want = {4, 5, 3, 6, 6, 1, 5, 3, 2};
    test(45, "0 to 8", () -> {
      for (int what = 0; what <= 8; what++) refused(Due::rich, want[what], 0, "count(" + what + ")");
    });
    test(45, "FLYERS 0 .. 4, COLUMNS 2 .. 7, HEIGHTS 1 .. 5, the SUN 0 .. 9", () -> {
      for (int n = 0; n <= 4; n++) dueCount(sky0("..=0" + "f990".repeat(n)), 0, n);
      for (int n = 2; n <= 7; n++) dueCount(sky0(".".repeat(n) + "=0"), 1, n);
      for (int n = 1; n <= 5; n++) dueCount(sky0("../".repeat(n - 1) + "..=0"), 2, n);
      for (int n = 0; n <= 9; n++) dueCount(sky0("..=" + n), 3, n);
    });
    test(45, "BEATS of all, undone ones not", () -> {
      dueCount(Due::rich, 4, 7, "lots(0, 1, 1)");
      dueCount(Due::rich, 4, 3, "undo(3)");
      dueCount(Due::rich, 4, 5, "on(2)");
      dueCount(Due::rich, 4, 0, "sky(0)");
    });
    test(45, "OLD ones (NIGHT, too)", () -> {
      for (int kind = 0; kind < 6; kind++) dueCount(sky0("..=0" + "foblna".charAt(kind) + "990"), 5, kind == 1 || kind == 4 ? 1 : 0);
      dueCount(sky0("..=0o990n990o990n990"), 5, 4);
      dueCount(sky0("..=0a990o990n990f990"), 5, 2);
    });
    test(45, "ROWS, TEXTS that are there: empty ones too", () -> {
      dueCount(Due::rich, 6, 6, "row(1, 0)");
      dueCount(Due::rich, 6, 4, "tear(0)");
      dueCount(Due::rich, 7, 4, "text(3, 0)");
      dueCount(Due::fresh, 6, 1, "row(5, 40)", "row(5, 0)");
    });
    test(45, "kept SKIES", () -> {
      dueCount(Due::rich, 8, 3, "keep(1)");
      dueCount(Due::rich, 8, 2, "keep(0)", "on(0)");
      dueCount(Due::rich, 8, 0, "sky(0)");
      dueCount(Due::rich, 8, 2, "sky(1)");
    });
    test(45, "BAD", () -> {
      bad(Due::rich, "count(-1)", "count(9)", "count(MIN)", "count(MAX)");
      bad(Due::fresh, "count(-1)", "count(9)");
    });
  }

  private static Supplier<WaxWings> sky0(String s) { return () -> sky(s); }

  private static void findings() {
    test(46, "0 before any", () -> {
      due(fresh(), "finding()", 0);
      due(run(fresh(), "row(6, 0)", "sun(1)", "row(0, 1)", "at(0, 0)"), "finding()", 0);
    });
    test(46, "the latest, of each FINDING", () -> {
      for (int n = 0; n < FOUND.length; n++) for (int m = 0; m < FOUND.length; m++) {
        WaxWings x = rich();
        due(x, FOUND[n], FINDING);
        due("finding() behind " + FOUND[n], x.finding(), FINDINGS[n]);
        call(x, FOUND[m]);
        due("finding() behind " + FOUND[n] + ", " + FOUND[m], x.finding(), FINDINGS[m]);
      }
    });
    test(46, "no other call leaves one: BAD, STATE, NONE, an answer", () -> {
      for (String[] calls : new String[][] {REFUSED, NOT_SO, SILENT, ASKING}) {
        for (String call : calls) {
          WaxWings x = rich(), twin = rich();
          call(x, call);
          due("finding() behind " + call, x.finding(), SIZE);
          for (int f = 1; f <= 5; f++) due("findings(" + f + ") behind " + call, x.findings(f), twin.findings(f));
        }
      }
    });
    test(47, "how often a FINDING (1 .. 5) was answered", () -> {
      WaxWings x = rich();
      int[] often = new int[6];
      for (int f = 1; f <= 5; f++) often[f] = x.findings(f);
      for (int round = 0; round < 3; round++) for (int n = 0; n < FOUND.length; n++) {
        call(x, FOUND[n]);
        often[FINDINGS[n]]++;
        for (int f = 1; f <= 5; f++) due("findings(" + f + ") behind " + FOUND[n], x.findings(f), often[f]);
      }
    });
    test(47, "511 times, by an object's 512 calls", () -> {
      WaxWings x = fresh();
      for (int n = 0; n < 511; n++) x.at(0, 0);
      due(x, "findings(1)", 511);
    });
    test(47, "BAD", () -> {
      bad(Due::rich, "findings(0)", "findings(6)", "findings(-1)", "findings(MIN)", "findings(MAX)");
      bad(Due::fresh, "findings(0)", "findings(6)");
    });
  }

  private static long digestOf(List<Long> all) {
    long h = 17;
    for (long v : all) h = 31 * h + v;
    return h;
  }

  private static void add(List<Long> all, long... more) { for (long v : more) all.add(v); }

  private static void addText(List<Long> all, String s) {
    add(all, s.length());
    for (char ch : s.toCharArray()) add(all, ch);
  }

  private static void digest() {
    test(48, "a new object", () -> {
      List<Long> all = new ArrayList<>();
      add(all, 0, 0, 0, 0, 0, 0, 0, 0, 0, -1, -1, -1, -1, -1, -1, -1, -1, -1, -1, -1, -1, -1);
      due(fresh(), "digest()", digestOf(all));
    });
    test(48, "something of everything", () -> {
      List<Long> all = new ArrayList<>();
      add(all, 4, 5, 3, 6, 6, 1, 5, 3, 2);
      add(all, 0, 2, 0, 8, 4, 1, 1, 0);
      add(all, 4, 4, 1, 6, 0, 0, 0, 0);
      add(all, 2, 1, 1, 7, 4, 0, 0, 2);
      add(all, 5, 0, 0, 6, 0, 0, 1, 0);
      add(all, 2, -1, 5);
      add(all, 0);
      add(all, -1);
      add(all, 2, 2, 0);
      add(all, 3, 2, 7, -1);
      add(all, 40);
      for (int i = 0; i < 39; i++) add(all, 0);
      add(all, 2);
      add(all, 9, 1, 1, 1, 1, 1, 1, 1, 1, 1);
      addText(all, SKY);
      addText(all, "##/.c=7f111x");
      add(all, 0, -1);
      due(rich(), "digest()", digestOf(all));
    });
    test(48, "a SKY without FLYERS", () -> {
      List<Long> all = new ArrayList<>();
      add(all, 0, 5, 2, 3, 0, 0, 0, 1, 0, -1, -1, -1, -1, -1, -1, -1, -1, -1);
      addText(all, "...../.....=3");
      add(all, -1, -1, -1);
      due(bare(), "digest()", digestOf(all));
    });
    test(48, "-1: missing, a ROW that was torn too", () -> {
      due("digest() behind tear(2)", run(fresh(), "row(2, 3)", "tear(2)").digest(), fresh().digest());
      due("digest() behind sky(0)", run(bare(), "keep(0)", "keep(2)", "sky(0)").digest(), bare().digest());
    });
    test(48, "full ROWS and TEXTS of numbers at their ends; it wraps around", () -> {
      WaxWings x = fresh();
      List<Long> all = new ArrayList<>();
      add(all, 0, 0, 0, 0, 0, 0, 2, 2, 0, -1, -1, -1);
      for (int r = 0; r < 2; r++) {
        x.row(r * 5, 40);
        for (int i = 0; i < 40; i++) x.lay(r * 5, i, r == 0 ? LOWEST : HIGHEST);
      }
      for (int t = 0; t < 2; t++) {
        x.text(t * 3, 80);
        for (int i = 0; i < 80; i++) x.put(t * 3, i, t == 0 ? 128 : 127);
      }
      add(all, 40);
      for (int i = 0; i < 40; i++) add(all, LOWEST);
      add(all, -1, -1, -1, -1, 40);
      for (int i = 0; i < 40; i++) add(all, HIGHEST);
      add(all, 80);
      for (int i = 0; i < 80; i++) add(all, -128);
      add(all, -1, -1, 80);
      for (int i = 0; i < 80; i++) add(all, 127);
      due(x, "digest()", digestOf(all));
    });
    test(48, "what was told and found does not count; it changes nothing", () -> {
      WaxWings x = rich();
      long before = x.digest();
      run(x, "flyer(0, 0)", "odds(3, 5)", "at(1, 0)", "can(0)", "fault(1)", "digest()");
      due(x, "digest()", before);
      x = rich();
      x.digest();
      dueAlike(x, rich(), "digest()");
    });
  }

  private static final int[] ODD = {LOWEST, -41, -1, 0, 1, 2, 3, 4, 5, 6, 7, 8, 9, 12, 13, 31, 40, 41, 79, 80, 81, 128, 1 << 30, HIGHEST};
  private static final int[] FEW = {LOWEST, -1, 0, 2, 4, 5, 39, 40, HIGHEST};

  private static void everyAnswer(Supplier<WaxWings> begin, Method m) {
    int many = m.getParameterCount();
    int[] values = many > 3 ? FEW : ODD;
    long rounds = Math.round(Math.pow(values.length, many));
    WaxWings x = begin.get();
    for (long round = 0; round < rounds; round++) {
      if (round % 250 == 249) x = begin.get();
      Object[] args = new Object[many];
      long rest = round;
      for (int k = 0; k < many; k++) { args[k] = values[(int) (rest % values.length)]; rest /= values.length; }
      long got = invoke(x, m.getName(), args);
      boolean free = m.getName().matches("asked|upper|lower|digest");
      if (!free && got < 0 && got != BAD && got != FINDING && got != STATE && got != NONE) fail(m.getName() + " answered " + got);
    }
  }

  private static void everyCall() {
    test(48, "no call throws, whatever its numbers are; none is FULL or SPENT", () -> {
      for (Method m : WaxWings.class.getDeclaredMethods()) {
        if (!Modifier.isPublic(m.getModifiers())) continue;
        everyAnswer(Due::rich, m);
        everyAnswer(Due::bare, m);
        everyAnswer(Due::fresh, m);
      }
    });
  }

  static int wrong() {
    asked();
    chances();
    count();
    findings();
    digest();
    everyCall();
    return wrong(42, 48);
  }

  public static void main(String[] args) {
    if (wrong() != 0) System.exit(1);
  }
}
