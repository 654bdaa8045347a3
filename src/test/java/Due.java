import java.lang.reflect.InvocationTargetException;
import java.lang.reflect.Method;
import java.util.ArrayList;
import java.util.HashMap;
import java.util.List;
import java.util.Map;
import java.util.Set;
import java.util.TreeSet;
import java.util.function.Supplier;

/**
 * What the tests of the boundary cases share. A call is written as the document writes it, "row(0, 41)", with MIN
 * and MAX for the least and the greatest int; so what a failure prints is what was called.
 */
abstract class Due {
  static final int BAD = -1, FULL = -2, FINDING = -3, STATE = -4, NONE = -9;
  static final int NOTHING = 1, BEYOND = 2, UNLIKE = 3, NOUGHT = 4, SIZE = 5;
  static final int LOWEST = Integer.MIN_VALUE, HIGHEST = Integer.MAX_VALUE;

  private static final Map<String, Method> METHODS = new HashMap<>();
  private static final Set<Integer> TESTED = new TreeSet<>();
  private static int wrong = 0, answers = 0, tests = 0, promise = 0;
  private static String sentence = "";



  interface Body { void run(); }

  /** The test of one sentence of a promise; what the program throws is a failure of it. */
  static void test(int ofPromise, String itsSentence, Body body) {
    promise = ofPromise;
    sentence = itsSentence;
    tests++;
    TESTED.add(ofPromise);
    try {
      body.run();
    } catch (RuntimeException thrown) {
      fail("threw " + thrown);
    }
  }

  /** How many answers were wrong; each promise from the first to the last must have had a test. */
  static int wrong(int firstPromise, int lastPromise) {
    for (int p = firstPromise; p <= lastPromise; p++) if (!TESTED.contains(p)) fail("promise " + p + " has no test");
    System.out.println(wrong == 0 ? tests + " sentences hold, " + answers + " answers are as due" : wrong + " answers are not as due");
    return wrong;
  }

  static void fail(String how) {
    wrong++;
    if (wrong <= 50) System.out.println("promise " + promise + " (" + sentence + "): " + how);
  }

  static void due(String what, long got, long want) {
    answers++;
    if (got != want) fail(what + " answered " + got + ", due is " + want);
  }

  static void due(WaxWings x, String call, long want) { due(call, call(x, call), want); }

  /** A call's answer, and what asked() tells behind it. */
  static void due(WaxWings x, String call, long want, int asked) {
    due(x, call, want);
    due("asked() behind " + call, x.asked(), asked);
  }

  static void dueChance(WaxWings x, String call, long upper, long lower) {
    due(x, call, 1);
    due("upper() behind " + call, x.upper(), upper);
    due("lower() behind " + call, x.lower(), lower);
  }

  /** A ROW's size and places. */
  static void dueRow(WaxWings x, int r, int... want) {
    for (int i = 0; i < want.length; i++) due(x, "at(" + r + ", " + i + ")", 1, want[i]);
    due(x, "at(" + r + ", " + want.length + ")", FINDING);
    due("finding() behind the places of row " + r, x.finding(), BEYOND);
  }

  /** What flyer() tells of 0, 1, .. */
  static void dueFlyer(WaxWings x, int i, int... want) {
    for (int what = 0; what < want.length; what++) due(x, "flyer(" + i + ", " + what + ")", 1, want[what]);
  }

  private static Method method(String name) {
    if (METHODS.isEmpty()) for (Method m : WaxWings.class.getMethods()) METHODS.put(m.getName(), m);
    Method m = METHODS.get(name);
    if (m == null) throw new IllegalStateException("no method " + name);
    return m;
  }

  static long call(WaxWings x, String call) {
    int open = call.indexOf('(');
    String inside = call.substring(open + 1, call.length() - 1).trim();
    String[] words = inside.isEmpty() ? new String[0] : inside.split(",");
    Object[] args = new Object[words.length];
    for (int i = 0; i < words.length; i++) args[i] = number(words[i].trim());
    return invoke(x, call.substring(0, open), args);
  }

  private static int number(String word) {
    return word.equals("MIN") ? LOWEST : word.equals("MAX") ? HIGHEST : Integer.parseInt(word);
  }

  static long invoke(WaxWings x, String name, Object... args) {
    try {
      return ((Number) method(name).invoke(x, args)).longValue();
    } catch (InvocationTargetException thrown) {
      throw new IllegalStateException(name + java.util.Arrays.toString(args) + " threw " + thrown.getCause());
    } catch (IllegalAccessException closed) {
      throw new IllegalStateException(closed);
    }
  }

  static WaxWings run(WaxWings x, String... calls) {
    for (String call : calls) call(x, call);
    return x;
  }

  // ---- objects to begin with

  static void text(WaxWings x, int t, String s) {
    x.text(t, s.length());
    for (int i = 0; i < s.length(); i++) if (s.charAt(i) != ' ') x.put(t, i, s.charAt(i));
  }

  static void row(WaxWings x, int r, int... v) {
    x.row(r, v.length);
    for (int i = 0; i < v.length; i++) if (v[i] != 0) x.lay(r, i, v[i]);
  }

  static WaxWings sky(String s) {
    WaxWings x = new WaxWings();
    text(x, 0, s);
    int flyers = x.sky(0);
    if (flyers < 0) fail("no sky: " + s);
    return x;
  }

  static WaxWings fresh() { return new WaxWings(); }

  /** A SKY without FLYERS. */
  static WaxWings bare() { return sky("...../.....=3"); }

  /**
   * Something of everything, so that a change shows. FLYER 0 is at (2, 0), 1 is OVER, 2 FELL, 3 is where it began;
   * 6 BEATS; kept SKIES 0 (2 BEATS) and 2 (5 BEATS). ROWS: 0 empty, 1 missing, 2 two BEATS, 3 no BEATS, 4 full with
   * BEATS, 5 nine BEATS. TEXTS: 0 the SKY, 1 with a FAULT at its end, 2 empty, 3 missing. Told: 4321, 7 of 12.
   */
  static WaxWings rich() {
    WaxWings x = sky("  ...s./.g.../.>.#.=5f991n091b290a660 ");
    text(x, 1, "##/.c=7f111x");
    x.text(2, 0);
    run(x, "letters(0, 2)", "letters(3, 1)", "beat(0, 1)", "beat(1, 2)", "keep(0)", "beat(1, 0)", "beat(1, 1)",
        "beat(2, 2)", "keep(2)", "sun(6)", "beat(0, 0)", "letters(0, 1)");
    x.row(0, 0);
    row(x, 2, 2, 0);
    row(x, 3, 2, 7, -1);
    x.row(4, 40);
    x.lay(4, 39, 2);
    row(x, 5, 1, 1, 1, 1, 1, 1, 1, 1, 1);
    run(x, "tear(1)", "at(0, 0)", "mark(0, 1)", "mean(0)", "row(0, -1)");
    run(x, "plan(0, 2, 5)", "lay(4, 1, 4321)", "lay(4, 1, 0)");
    return x;
  }

  // ---- what is refused changes nothing else

  /** All that an object tells, but for finding() and findings(); asking changes it, so it is for the end. */
  static List<Long> all(WaxWings x) {
    List<Long> all = new ArrayList<>();
    all.add((long) x.asked());
    all.add(x.upper());
    all.add(x.lower());
    all.add(x.digest());
    for (int c = 0; c < 7; c++) for (int h = 0; h < 5; h++) all.add((long) x.air(c, h));
    // the WAX shows by the WAYS alone
    for (int i = 0; i < 4; i++) { all.add((long) x.ways(i)); all.add(x.upper()); }
    addPast(x, all);
    for (int k = 0; k < 3; k++) { all.add((long) x.on(k)); addPast(x, all); }
    return all;
  }

  private static void addPast(WaxWings x, List<Long> all) {
    all.add(x.digest());
    for (int n = x.count(4) - 1; n >= 0; n--) { all.add((long) x.undo(n)); all.add(x.digest()); }
  }

  /** Each call is answered so, leaves this FINDING (0: none), and changes nothing else. */
  static void refused(Supplier<WaxWings> begin, int answer, int finding, String... calls) {
    for (String call : calls) {
      WaxWings x = begin.get(), twin = begin.get();
      // another FINDING ahead of it, so that the latest one shows
      String ahead = finding == SIZE ? "tear(1)" : "row(0, -1)";
      call(x, ahead);
      call(twin, ahead);
      due(x, call, answer);
      due("finding() behind " + call, x.finding(), finding == 0 ? twin.finding() : finding);
      for (int f = 1; f <= 5; f++) due("findings(" + f + ") behind " + call, x.findings(f), twin.findings(f) + (f == finding ? 1 : 0));
      dueAlike(x, twin, call);
    }
  }

  static void dueAlike(WaxWings x, WaxWings twin, String behind) {
    answers++;
    List<Long> got = all(x), want = all(twin);
    if (!got.equals(want)) fail(behind + " changed something: " + got + ", due is " + want);
  }

  static void bad(Supplier<WaxWings> begin, String... calls) { refused(begin, BAD, 0, calls); }
  static void state(Supplier<WaxWings> begin, String... calls) { refused(begin, STATE, 0, calls); }
  static void none(Supplier<WaxWings> begin, String... calls) { refused(begin, NONE, 0, calls); }
  static void found(int finding, Supplier<WaxWings> begin, String... calls) { refused(begin, FINDING, finding, calls); }
}
