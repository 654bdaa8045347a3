import java.math.BigInteger;
import java.util.ArrayList;
import java.util.Arrays;
import java.util.List;
import java.util.regex.Matcher;
import java.util.regex.Pattern;

/**
 * The document once more, by other means than the program's: every row of beats is tried, chances are
 * exact fractions, a fault is found by the prefixes that some sky begins with. Slow and plain.
 */
final class Model {
  record At(int column, int height, int strength, int heat, int clog, int fell) { }
  record One(char letter, int wax, int letters, At at) { }
  record Done(int who, At before) { }
  record Kept(List<One> ones, int sun, List<Done> log) { }
  record Part(BigInteger upper, BigInteger lower) {
    static final Part ZERO = new Part(BigInteger.ZERO, BigInteger.ONE), ONE = new Part(BigInteger.ONE, BigInteger.ONE);
    Part plus(Part o) { return new Part(upper.multiply(o.lower).add(o.upper.multiply(lower)), lower.multiply(o.lower)).least(); }
    Part times(int n, int d) { return new Part(upper.multiply(BigInteger.valueOf(n)), lower.multiply(BigInteger.valueOf(d))).least(); }
    Part least() { BigInteger g = upper.gcd(lower); return new Part(upper.divide(g), lower.divide(g)); }
    boolean above(Part o) { return upper.multiply(o.lower).compareTo(o.upper.multiply(lower)) > 0; }
  }

  static final int BAD = -1, FULL = -2, FINDING = -3, STATE = -4, NONE = -9;
  static final String LETTERS = "foblna", SIGNS = ".csg>#";
  /** Every row of 0 to 6 beats, as WAYS go. */
  static final List<int[]> BEAT_ROWS = new ArrayList<>();
  static { grow(new int[0]); BEAT_ROWS.sort(Arrays::compare); }
  private static void grow(int[] row) {
    BEAT_ROWS.add(row);
    for (int b = 0; b < 3 && row.length < 6; b++) {
      int[] longer = Arrays.copyOf(row, row.length + 1);
      longer[row.length] = b;
      grow(longer);
    }
  }

  int[][] rows = new int[6][];
  byte[][] texts = new byte[4][];
  String[] lines = {};
  int sun;
  List<One> ones = new ArrayList<>();
  List<Done> log = new ArrayList<>();
  Kept[] kept = new Kept[3];
  int asked, finding;
  int[] findings = new int[6];
  BigInteger upper = BigInteger.ZERO, lower = BigInteger.ONE;

  // ---- rows, texts, skies
  private int found(int f) { finding = f; findings[f]++; return FINDING; }
  private static boolean in(int v, int low, int high) { return v >= low && v <= high; }
  private boolean one(int i) { return in(i, 0, ones.size() - 1); }
  private boolean fell(int i) { return ones.get(i).at.fell != 0; }

  int row(int r, int n) { if (!in(r, 0, 5) || n > 40) return BAD; if (n < 0) return found(5); rows[r] = new int[n]; return n; }
  int lay(int r, int i, int v) { int a = at(r, i); if (a == 1) rows[r][i] = v; return a; }
  int at(int r, int i) {
    if (!in(r, 0, 5)) return BAD;
    if (rows[r] == null) return found(1);
    if (!in(i, 0, rows[r].length - 1)) return found(2);
    asked = rows[r][i];
    return 1;
  }
  int tear(int r) { if (!in(r, 0, 5)) return BAD; if (rows[r] == null) return found(1); rows[r] = null; return 1; }
  int copy(int r, int i, int to, int j, int n) {
    if (!in(r, 0, 5) || !in(to, 0, 5)) return BAD;
    if (n < 0) return found(5);
    if (rows[r] == null || rows[to] == null) return found(1);
    if (i < 0 || j < 0 || (long) i + n > rows[r].length || (long) j + n > rows[to].length) return found(2);
    int[] ahead = rows[r].clone();
    for (int k = 0; k < n; k++) rows[to][j + k] = ahead[i + k];
    return 1;
  }
  int mean(int r) {
    if (!in(r, 0, 5)) return BAD;
    if (rows[r] == null) return found(1);
    if (rows[r].length == 0) return found(4);
    BigInteger sum = BigInteger.ZERO;
    for (int v : rows[r]) sum = sum.add(BigInteger.valueOf(v));
    asked = sum.divide(BigInteger.valueOf(rows[r].length)).intValueExact();
    return 1;
  }
  int text(int t, int n) {
    if (!in(t, 0, 3) || n > 80) return BAD;
    if (n < 0) return found(5);
    texts[t] = " ".repeat(n).getBytes();
    return n;
  }
  int put(int t, int i, int v) {
    if (!in(t, 0, 3)) return BAD;
    if (texts[t] == null) return found(1);
    if (!in(i, 0, texts[t].length - 1)) return found(2);
    int was = texts[t][i];
    texts[t][i] = (byte) v;
    return 1000 + was;
  }

  private static final List<Pattern> SKIES = new ArrayList<>();
  static {
    for (int lines = 1; lines <= 5; lines++) for (int columns = 2; columns <= 7; columns++) {
      String line = "[.csg>#]{" + columns + "}";
      SKIES.add(Pattern.compile(" *" + line + ("/" + line).repeat(lines - 1)
          + "=[0-9]([foblna][0-9][0-9][0-" + (lines - 1) + "]){0,4} *"));
    }
  }
  private static boolean rockBegun(String s) {
    int sunAt = s.indexOf('=') + 1;
    if (sunAt == 0) return false;
    String[] l = s.substring(0, sunAt - 1).trim().split("/", -1);
    for (int p = sunAt + 4; p < s.length() && s.charAt(p - 3) != ' '; p += 4) {
      int h = s.charAt(p) - '0';
      if (in(h, 0, l.length - 1) && !l[h].isEmpty() && l[h].charAt(0) == '#') return true;
    }
    return false;
  }
  /** -9, the first place at which no sky goes on so, or the size. */
  static int faultOf(String s) {
    for (int n = 1; n <= s.length(); n++) {
      String begin = s.substring(0, n);
      boolean goesOn = false;
      for (Pattern p : SKIES) { Matcher m = p.matcher(begin); if (m.matches() || m.hitEnd()) { goesOn = true; break; } }
      if (!goesOn || rockBegun(begin)) return n - 1;
    }
    for (Pattern p : SKIES) if (p.matcher(s).matches()) return NONE;
    return s.length();
  }
  private String string(int t) {
    StringBuilder s = new StringBuilder();
    for (byte b : texts[t]) s.append((char) (b & 255));
    return s.toString();
  }
  int fault(int t) { if (!in(t, 0, 3)) return BAD; return texts[t] == null ? found(1) : faultOf(string(t)); }
  int sky(int t) {
    if (!in(t, 0, 3)) return BAD;
    if (texts[t] == null) return found(1);
    if (faultOf(string(t)) != NONE) return STATE;
    String s = string(t).trim();
    int eq = s.indexOf('=');
    lines = s.substring(0, eq).split("/");
    sun = s.charAt(eq + 1) - '0';
    ones = new ArrayList<>();
    for (int p = eq + 2; p < s.length(); p += 4) {
      ones.add(new One(s.charAt(p), s.charAt(p + 1) - '0', 0, new At(0, s.charAt(p + 3) - '0', s.charAt(p + 2) - '0', 0, 0, 0)));
    }
    log = new ArrayList<>();
    kept = new Kept[3];
    return ones.size();
  }
  private int columns() { return lines.length == 0 ? 0 : lines[0].length(); }
  private int told(int i, int what) {
    One o = ones.get(i);
    return new int[] {LETTERS.indexOf(o.letter), o.at.column, o.at.height, o.at.strength, o.at.heat, o.at.clog, o.letters, o.at.fell}[what];
  }
  int flyer(int i, int what) { if (!one(i) || !in(what, 0, 7)) return BAD; asked = told(i, what); return 1; }
  int mark(int i, int kind) {
    if (!one(i) || !in(kind, 1, 5)) return BAD;
    One o = ones.get(i);
    if (" |on|b|la|n|a".split("\\|")[kind].indexOf(o.letter) < 0) return found(3);
    if (kind == 1) return 3 + o.letters;
    if (kind == 2) return 2 * Math.max(0, lines.length - 1 + sun - 4);
    if (kind == 3) return o.letter == 'a' ? o.letters : 1 + o.letters;
    if (kind == 4) return columns() - 1 - o.at.column;
    int others = -1;
    for (One x : ones) if (x.at.column == o.at.column) others++;
    return others;
  }
  int air(int c, int h) { return in(h, 0, lines.length - 1) && in(c, 0, columns() - 1) ? SIGNS.indexOf(lines[h].charAt(c)) : BAD; }
  int sun(int v) { if (!in(v, 0, 9)) return BAD; if (columns() == 0) return STATE; int was = sun; sun = v; return was; }
  int letters(int i, int v) {
    if (!one(i) || !in(v, 0, 3)) return BAD;
    One o = ones.get(i);
    ones.set(i, new One(o.letter, o.wax, v, o.at));
    return o.letters;
  }

  // ---- beats
  private boolean isOver(At a) { return a.column == columns() - 1; }
  private char cell(int c, int h) { return in(h, 0, lines.length - 1) && in(c, 0, columns() - 1) ? lines[h].charAt(c) : '#'; }
  private static int cost(One o, int b) {
    int up = 2 + o.letters, level = 1;
    switch (o.letter) {
      case 'o': case 'n': up += 1; level = 0; break;
      case 'l': level += o.letters; break;
      case 'a': up -= 1; level = o.letters; break;
      default:
    }
    return b == 2 ? up : b == 1 ? level : 0;
  }
  /** Behind a beat, with or without a gust's fall by 1; null: it can't be. */
  private At fly(One o, At a, int b, int sunThen, int sunk) {
    if (a.fell != 0 || isOver(a)) return null;
    char from = cell(a.column, a.height);
    int c = Math.min(columns() - 1, a.column + (from == '>' ? 2 : 1)), h = a.height + b - 1;
    if (cell(c, h) == '#') return null;
    if (sunk == 1 && c < columns() - 1 && cell(c, h - 1) != '#') h--;
    int left = from == 'g' ? a.strength : a.strength - cost(o, b);
    int hot = h + sunThen > 4 ? h + sunThen - 4 : 0;
    if (o.letter == 'b') hot *= 2;
    if (o.letter == 'n') hot = 0;
    int heat = cell(c, h) == 'c' ? Math.max(0, a.heat - 1) : a.heat + hot;
    int clog = h == 0 || cell(c, h) == 's' ? a.clog + 1 : Math.max(0, a.clog - 1);
    int fell = left < 0 ? 1 : heat > o.wax ? 2 : clog > 2 ? 3 : 0;
    return new At(c, h, left, heat, clog, fell);
  }
  int beat(int i, int b) {
    if (!one(i) || !in(b, 0, 2)) return BAD;
    One o = ones.get(i);
    At then = fly(o, o.at, b, sun, 0);
    if (then == null) return STATE;
    if (log.size() == 40) return FULL;
    log.add(new Done(i, o.at));
    ones.set(i, new One(o.letter, o.wax, o.letters, then));
    return then.fell;
  }
  int undo(int n) {
    if (!in(n, 0, log.size())) return BAD;
    int undone = 0;
    while (log.size() > n) {
      Done d = log.remove(log.size() - 1);
      One o = ones.get(d.who);
      ones.set(d.who, new One(o.letter, o.wax, o.letters, d.before));
      undone++;
    }
    return undone;
  }
  int over() {
    int over = 0;
    asked = 0;
    for (int i = 0; i < ones.size(); i++) {
      if (fell(i)) asked |= 1 << i;
      if (!fell(i) && isOver(ones.get(i).at)) over |= 1 << i;
    }
    return over;
  }
  int can(int i) {
    if (!one(i)) return BAD;
    int can = 0;
    asked = 0;
    for (int b = 0; b < 3; b++) {
      At then = fly(ones.get(i), ones.get(i).at, b, sun, 0);
      if (then != null) can |= 1 << b;
      if (then != null && then.fell != 0) asked |= 1 << b;
    }
    return can;
  }
  int keep(int k) {
    if (!in(k, 0, 2)) return BAD;
    if (columns() == 0) return STATE;
    kept[k] = new Kept(List.copyOf(ones), sun, List.copyOf(log));
    return log.size();
  }
  int on(int k) {
    if (!in(k, 0, 2)) return BAD;
    if (kept[k] == null) return found(1);
    ones = new ArrayList<>(kept[k].ones);
    sun = kept[k].sun;
    log = new ArrayList<>(kept[k].log);
    return log.size();
  }

  // ---- ways
  /** Where one comes to, beat by beat, till it can't be (null) or one falls. */
  private List<At> trail(One o, int[] row, int sunThen) {
    List<At> trail = new ArrayList<>();
    At a = o.at;
    for (int b : row) {
      a = fly(o, a, b, sunThen, 0);
      trail.add(a);
      if (a == null || a.fell != 0) break;
    }
    return trail;
  }
  private boolean isWay(One o, int[] row, int sunThen) {
    List<At> t = trail(o, row, sunThen);
    if (t.size() < row.length) return false;
    At end = t.isEmpty() ? o.at : t.get(t.size() - 1);
    return end != null && end.fell == 0 && isOver(end);
  }
  private List<int[]> waysOf(One o, int sunThen) {
    List<int[]> ways = new ArrayList<>();
    for (int[] row : BEAT_ROWS) if (isWay(o, row, sunThen)) ways.add(row);
    return ways;
  }
  private List<int[]> waysOf(int i) { return waysOf(ones.get(i), sun); }
  private boolean beats(int[] row) { return Arrays.stream(row).allMatch(b -> in(b, 0, 2)); }

  int judge(int i, int r) {
    if (!one(i) || !in(r, 0, 5)) return BAD;
    if (fell(i)) return STATE;
    if (rows[r] == null) return found(1);
    if (!beats(rows[r])) return found(3);
    List<At> t = trail(ones.get(i), rows[r], sun);
    At end = t.isEmpty() ? ones.get(i).at : t.get(t.size() - 1);
    asked = end == null ? 0 : end.fell;
    return end == null || end.fell != 0 ? t.size() - 1 : rows[r].length;
  }
  int soonest(int i, int r) {
    if (!one(i) || !in(r, 0, 5)) return BAD;
    if (fell(i)) return STATE;
    int[] best = null;
    for (int[] way : waysOf(i)) if (best == null || way.length < best.length) best = way;
    if (best == null) return NONE;
    rows[r] = best.clone();
    return best.length;
  }
  private int left(One o, int[] way) {
    List<At> t = trail(o, way, sun);
    return t.isEmpty() ? o.at.strength : t.get(t.size() - 1).strength;
  }
  int lightest(int i, int r) {
    if (!one(i) || !in(r, 0, 5)) return BAD;
    if (fell(i)) return STATE;
    int[] best = null;
    for (int[] way : waysOf(i)) if (best == null || left(ones.get(i), way) > left(ones.get(i), best)) best = way;
    if (best == null) return NONE;
    rows[r] = best.clone();
    return left(ones.get(i), best);
  }
  int ways(int i) {
    if (!one(i)) return BAD;
    if (fell(i)) return STATE;
    upper = BigInteger.valueOf(waysOf(i).size());
    lower = BigInteger.ONE;
    return 1;
  }
  int heights(int i, int column) {
    if (!one(i) || !in(column, 0, columns() - 1)) return BAD;
    if (fell(i)) return STATE;
    List<int[]> ways = waysOf(i);
    int some = 0, each = ways.isEmpty() ? 0 : -1;
    for (int[] way : ways) {
      int bits = 0;
      for (At a : trail(ones.get(i), way, sun)) if (a.column == column) bits |= 1 << a.height;
      some |= bits;
      each &= bits;
    }
    asked = each;
    return some;
  }
  int nth(int i, int n, int r) {
    if (!one(i) || !in(r, 0, 5) || n < 0) return BAD;
    if (fell(i)) return STATE;
    List<int[]> ways = waysOf(i);
    if (n >= ways.size()) return found(4);
    rows[r] = ways.get(n).clone();
    return rows[r].length;
  }

  // ---- with how much
  int wax(int i) {
    if (!one(i)) return BAD;
    if (fell(i)) return STATE;
    One o = ones.get(i);
    for (int w = 0; w <= 9; w++) if (!waysOf(new One(o.letter, w, o.letters, o.at), sun).isEmpty()) return w;
    return NONE;
  }
  int strength(int i) {
    if (!one(i)) return BAD;
    if (fell(i)) return STATE;
    One o = ones.get(i);
    At a = o.at;
    for (int s = 0; s <= 40; s++) {
      if (!waysOf(new One(o.letter, o.wax, o.letters, new At(a.column, a.height, s, a.heat, a.clog, 0)), sun).isEmpty()) return s;
    }
    return NONE;
  }
  private boolean brings(int i, int v) {
    One o = ones.get(i);
    return !waysOf(new One(o.letter, o.wax, v, o.at), sun).isEmpty();
  }
  int most(int i) {
    if (!one(i)) return BAD;
    if (fell(i)) return STATE;
    for (int v = 3; v >= 0; v--) if (brings(i, v)) return v;
    return NONE;
  }
  int hottest(int i) {
    if (!one(i)) return BAD;
    if (fell(i)) return STATE;
    for (int v = 9; v >= 0; v--) if (!waysOf(ones.get(i), v).isEmpty()) return v;
    return NONE;
  }
  int kinds(int i) {
    if (!one(i)) return BAD;
    if (fell(i)) return STATE;
    One o = ones.get(i);
    int bits = 0;
    for (int k = 0; k < 6; k++) if (!waysOf(new One(LETTERS.charAt(k), o.wax, o.letters, o.at), sun).isEmpty()) bits |= 1 << k;
    return bits;
  }
  int post(int n, int r) {
    if (!in(n, 0, 12) || !in(r, 0, 5)) return BAD;
    if (ones.isEmpty()) return STATE;
    boolean[][] may = new boolean[ones.size()][4];
    for (int i = 0; i < may.length; i++) for (int v = 0; v <= 3; v++) may[i][v] = v == 0 || !fell(i) && brings(i, v);
    int[] best = share(may, new int[ones.size()], 0, n, null);
    if (best == null) return NONE;
    rows[r] = best;
    return carriers(best);
  }
  private static int carriers(int[] shares) { return (int) Arrays.stream(shares).filter(v -> v > 0).count(); }
  private static int[] share(boolean[][] may, int[] shares, int i, int left, int[] best) {
    if (i == shares.length) return left == 0 && (best == null || carriers(shares) < carriers(best)) ? shares.clone() : best;
    int[] then = best;
    for (int v = 0; v <= 3; v++) {
      if (!may[i][v]) continue;
      shares[i] = v;
      then = share(may, shares, i + 1, left - v, then);
    }
    shares[i] = 0;
    return then;
  }

  // ---- gusts
  private Part behind(One o, At a, int b, int p, int[] plan, int n) {
    At calm = fly(o, a, b, sun, 0), sunk = fly(o, a, b, sun, 1);
    if (calm == null) return Part.ZERO;
    return best(o, sunk, p, plan, n + 1).times(p, 12).plus(best(o, calm, p, plan, n + 1).times(12 - p, 12));
  }
  private Part best(One o, At a, int p, int[] plan, int n) {
    if (a.fell != 0) return Part.ZERO;
    if (isOver(a)) return Part.ONE;
    if (plan != null) return n < plan.length ? behind(o, a, plan[n], p, plan, n) : Part.ZERO;
    Part best = Part.ZERO;
    for (int b = 0; b < 3; b++) { Part x = behind(o, a, b, p, null, n); if (x.above(best)) best = x; }
    return best;
  }
  private int tell(Part p) { upper = p.least().upper; lower = p.least().lower; return 1; }
  int plan(int i, int r, int p) {
    if (!one(i) || !in(r, 0, 5) || !in(p, 0, 12)) return BAD;
    if (fell(i)) return STATE;
    if (rows[r] == null) return found(1);
    if (rows[r].length > 8) return found(5);
    if (!beats(rows[r])) return found(3);
    return tell(best(ones.get(i), ones.get(i).at, p, rows[r], 0));
  }
  int odds(int i, int p) {
    if (!one(i) || !in(p, 0, 12)) return BAD;
    if (fell(i)) return STATE;
    return tell(best(ones.get(i), ones.get(i).at, p, null, 0));
  }
  int choice(int i, int p) {
    if (!one(i) || !in(p, 0, 12)) return BAD;
    if (fell(i)) return STATE;
    One o = ones.get(i);
    if (isOver(o.at)) return NONE;
    Part best = best(o, o.at, p, null, 0);
    if (best.upper.signum() == 0) return NONE;
    for (int b = 0; b < 3; b++) if (behind(o, o.at, b, p, null, 0).least().equals(best.least())) return b;
    return NONE;
  }

  // ---- boats, feathers
  int boats(int n, int r) {
    if (!in(n, 1, 4) || !in(r, 0, 5)) return BAD;
    if (columns() == 0) return STATE;
    if (n > columns()) return found(5);
    int[] best = boats(new int[n], 0, null);
    rows[r] = best;
    return worst(best);
  }
  private int[] boats(int[] row, int k, int[] best) {
    if (k == row.length) return best == null || worst(row) < worst(best) ? row.clone() : best;
    int[] then = best;
    for (int c = k == 0 ? 0 : row[k - 1] + 1; c < columns(); c++) { row[k] = c; then = boats(row, k + 1, then); }
    return then;
  }
  private int worst(int[] row) {
    int worst = 0;
    for (int c = 0; c < columns(); c++) {
      int near = 99;
      for (int b : row) near = Math.min(near, Math.abs(b - c));
      worst = Math.max(worst, near);
    }
    return worst;
  }
  int drip(int i, int r) {
    if (!one(i) || !in(r, 0, 5)) return BAD;
    if (fell(i)) return STATE;
    if (rows[r] == null) return found(1);
    if (!beats(rows[r])) return found(3);
    for (At a : trail(ones.get(i), rows[r], sun)) {
      if (a == null || a.heat <= ones.get(i).wax / 2) continue;
      asked = a.heat;
      return a.column;
    }
    return NONE;
  }
  int feathers(int i, int set) {
    if (!one(i) || set < 0 || set >> columns() != 0) return BAD;
    if (fell(i)) return STATE;
    One o = ones.get(i);
    int many = 0, ends = 0;
    for (int[] way : waysOf(i)) {
      List<At> t = trail(o, way, sun);
      int drips = 0;
      for (At a : t) if (a.heat > o.wax / 2) drips |= 1 << a.column;
      if (drips != set) continue;
      many++;
      for (At a : t) if (isOver(a)) ends |= 1 << a.height;
    }
    upper = BigInteger.valueOf(many);
    lower = BigInteger.ONE;
    asked = ends;
    return 1;
  }

  // ---- lots, what is told
  int lots(int i, int n, int seed) {
    if (!one(i) || !in(n, 1, 9) || !in(seed, 1, 2147483646)) return BAD;
    if (fell(i)) return STATE;
    if (log.size() + n > 40) return FULL;
    BigInteger x = BigInteger.valueOf(seed);
    for (int k = 0; k < n; k++) {
      x = x.multiply(BigInteger.valueOf(48271)).mod(BigInteger.valueOf(2147483647));
      List<Integer> open = new ArrayList<>();
      for (int b = 0; b < 3; b++) if (fly(ones.get(i), ones.get(i).at, b, sun, 0) != null) open.add(b);
      if (open.isEmpty()) return k;
      beat(i, open.get(x.mod(BigInteger.valueOf(open.size())).intValueExact()));
    }
    return n;
  }
  int asked() { return asked; }
  long upper() { return upper.longValueExact(); }
  long lower() { return lower.longValueExact(); }
  private static int there(Object[] some) { return (int) Arrays.stream(some).filter(o -> o != null).count(); }
  int count(int what) {
    if (!in(what, 0, 8)) return BAD;
    int old = (int) ones.stream().filter(o -> o.letter == 'o' || o.letter == 'n').count();
    return new int[] {ones.size(), columns(), lines.length, sun, log.size(), old, there(rows), there(texts), there(kept)}[what];
  }
  int finding() { return finding; }
  int findings(int f) { return in(f, 1, 5) ? findings[f] : BAD; }
  long digest() {
    List<Long> all = new ArrayList<>();
    for (int what = 0; what <= 8; what++) all.add((long) count(what));
    for (int i = 0; i < ones.size(); i++) for (int what = 0; what < 8; what++) all.add((long) told(i, what));
    for (Kept k : kept) all.add(k == null ? -1L : k.log.size());
    for (int[] r : rows) { all.add(r == null ? -1L : r.length); if (r != null) for (int v : r) all.add((long) v); }
    for (byte[] t : texts) { all.add(t == null ? -1L : t.length); if (t != null) for (byte v : t) all.add((long) v); }
    long h = 17;
    for (long v : all) h = 31 * h + v;
    return h;
  }
}
