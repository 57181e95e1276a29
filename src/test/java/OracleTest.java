import java.lang.reflect.Method;
import java.nio.charset.StandardCharsets;
import java.util.ArrayList;
import java.util.Arrays;
import java.util.HashMap;
import java.util.List;
import java.util.Map;
import java.util.Random;
import java.util.TreeMap;

/**
 * Long runs of calls drawn by a fixed seed, each answer beside that of a second, slow program, which tries every
 * number of a year and keeps nothing from one call to the next.
 */
public final class OracleTest {
  private static final int RUNS = 900, CALLS = 512;
  private static int wrong = 0;
  private static final Map<String, Integer> met = new TreeMap<>();

  public static void main(String[] args) throws Exception {
    Map<String, Method> real = methods(RiverDiggers.class), slow = methods(Model.class);
    for (int seed = 1; seed <= RUNS && wrong < 10; seed++) oneRun(seed, real, slow);
    for (String need : NEEDED) {
      if (!met.containsKey(need)) { wrong++; System.out.println("never met: " + need); }
    }
    if (args.length > 0) met.forEach((k, v) -> System.out.println(k + "  " + v));
    System.out.println(wrong == 0 ? "the two programs answer alike" : wrong + " answers differ");
    if (wrong != 0) System.exit(1);
  }

  /** Answers that the runs have to come to, else they test less than they seem to. */
  private static final String[] NEEDED = {
    "feed FULL", "end BAD", "text fault 1", "text fault 2", "text fault 3", "text fault 4", "text fault 5",
    "text fault 6", "text +", "rule BAD", "cell NONE", "farm BAD", "bed NONE", "year +", "year STATE", "year FULL",
    "would STATE", "would +", "tell FULL", "drop BAD", "judge 0", "judge +", "judge NONE", "alone 0", "alone +",
    "alone NONE", "together 0", "together +", "together NONE", "selfish +", "rests 0", "rests NONE", "rests +",
    "breaks 0", "breaks +", "breaks STATE", "stands 0", "stands +", "stands STATE", "again 0", "again +",
    "again NONE", "odds 0", "odds +", "see FULL", "forget +", "fits NONE", "fits 0", "fits +", "keep 0", "keep +",
    "back STATE", "back +", "sheet fault 4", "lay fault 1", "lay fault 2", "read +", "read refused", "torn 1",
    "torn 2", "torn 3", "torn 0", "count NONE", "count +"
  };

  private static Map<String, Method> methods(Class<?> c) {
    Map<String, Method> all = new HashMap<>();
    for (Method m : c.getDeclaredMethods()) {
      if (java.lang.reflect.Modifier.isPublic(m.getModifiers())) all.put(m.getName(), m);
    }
    return all;
  }

  private static void oneRun(int seed, Map<String, Method> real, Map<String, Method> slow) throws Exception {
    Random r = new Random(seed);
    RiverDiggers x = new RiverDiggers();
    Model m = new Model();
    List<String> log = new ArrayList<>();
    List<Object[]> waiting = new ArrayList<>();
    if (seed % 9 == 0) waiting.addAll(longRead());
    else if (seed % 11 == 0) waiting.addAll(steepPlain(r));
    else if (seed % 7 != 0) waiting.addAll(tellText(r, goodText(r)));
    for (int i = 0; i < CALLS; i++) {
      while (waiting.isEmpty()) draw(r, m, waiting);
      Object[] call = waiting.remove(0);
      String name = (String) call[0];
      Object[] a = Arrays.copyOfRange(call, 1, call.length);
      long got = ((Number) real.get(name).invoke(x, a)).longValue();
      long due = ((Number) slow.get(name).invoke(m, a)).longValue();
      log.add(name + Arrays.toString(a) + " -> " + got);
      note(name, due, m);
      if (got != due) {
        wrong++;
        System.out.println("seed " + seed + ", call " + i + ": " + log.get(log.size() - 1) + ", due " + due);
        System.out.println("  text was: " + m.latest);
        return;
      }
    }
  }

  private static void note(String name, long v, Model m) {
    String kind = v == -1 ? "BAD" : v == -2 ? "STATE" : v == -3 ? "FULL" : v == -4 ? "NONE" : v == 0 ? "0" : v > 0 ? "+" : "";
    if (name.equals("text") && v < 0) kind = "fault " + m.fault;
    else if (name.equals("torn")) kind = "" + v;
    else if (name.equals("read") && v <= -20) kind = "refused";
    else if (kind.isEmpty()) kind = "fault " + (-10 - v);
    met.merge(name + " " + kind, 1, Integer::sum);
  }

  // ---- drawing calls

  private static List<Object[]> tellText(Random r, byte[] text) {
    List<Object[]> calls = new ArrayList<>();
    calls.add(new Object[] {"end", 0});
    for (int i = 0; i < text.length; i += 8) {
      long v = 0;
      for (int j = 0; j < 8; j++) v = v << 8 | (i + j < text.length ? text[i + j] & 255 : r.nextInt(256));
      calls.add(new Object[] {"feed", v});
    }
    calls.add(new Object[] {"end", text.length});
    calls.add(new Object[] {"text"});
    calls.add(new Object[] {"fault"});
    return calls;
  }

  /** Sheets of nothing but quiet years, read until the 1000th is refused. */
  private static List<Object[]> longRead() {
    List<Object[]> calls = new ArrayList<>();
    calls.add(new Object[] {"sheet", 0, 2, 40});
    for (int i = 0; i < 49; i++) calls.add(new Object[] {"read", 0, 2, i % 2, 20});
    calls.add(new Object[] {"read", 0, 2, 0, 20});
    calls.add(new Object[] {"read", 0, 2, 0, 19});
    calls.add(new Object[] {"year", 0});
    calls.add(new Object[] {"year", 1});
    calls.add(new Object[] {"would", 0, 0});
    calls.add(new Object[] {"rule", 6});
    calls.add(new Object[] {"read", 0, 2, 0, 1});
    return calls;
  }

  /** Heights that silt moves about for some sixty years. */
  private static List<Object[]> steepPlain(Random r) {
    List<Object[]> calls = new ArrayList<>();
    int[] steep = {97, 99, 1, 96, 98, 2, 94, 3, 0};
    for (int c = 0; c < 9; c++) calls.add(new Object[] {"dam", c, Math.max(0, steep[c] - r.nextInt(5))});
    calls.add(new Object[] {"silt", true});
    for (int i = 0; i < 8; i++) {
      calls.add(new Object[] {"again", 0});
      calls.add(new Object[] {"again", 1});
      calls.add(new Object[] {"stands", r.nextInt(9)});
      calls.add(new Object[] {"year", 0});
    }
    return calls;
  }

  private static byte[] goodText(Random r) {
    StringBuilder b = new StringBuilder();
    int wide = 3, high = 3;
    List<String> lines = new ArrayList<>();
    if (r.nextInt(5) > 0) {
      wide = Math.min(5, 2 + r.nextInt(5));
      high = Math.min(5, 2 + r.nextInt(5));
      lines.add("plain " + wide + " " + high + ";");
    }
    int most = 1 + r.nextInt(9), slope = r.nextInt(3);
    for (int row = 0; row < high; row++) {
      if (r.nextInt(12) == 0) continue;
      b.setLength(0);
      b.append("row ").append(row);
      int told = r.nextInt(6) == 0 ? 1 + r.nextInt(wide) : wide;
      for (int i = 0; i < told; i++) b.append(' ').append(Math.min(9, r.nextInt(most + 1) + (slope > 0 ? (high - row) * slope : 0)));
      lines.add(b.append(';').toString());
    }
    if (r.nextBoolean()) lines.add("spring " + r.nextInt(wide * high) + ";");
    int farms = r.nextInt(12) == 0 ? r.nextInt(2) : 2 + r.nextInt(2);
    List<Integer> free = new ArrayList<>();
    for (int c = 0; c < wide * high; c++) free.add(c);
    for (int f = 0; f < farms; f++) {
      lines.add("farm " + (1 + r.nextInt(9)) + ";");
      int cells = Math.min(free.size(), r.nextInt(4) == 0 ? 8 : r.nextInt(9));
      if (cells == 0) continue;
      b.setLength(0);
      b.append("ground ").append(f);
      for (int i = 0; i < cells; i++) b.append(' ').append(free.remove(r.nextInt(free.size())));
      lines.add(b.append(';').toString());
    }
    if (r.nextBoolean()) lines.add("law " + r.nextInt(3) + ";");
    if (r.nextInt(3) > 0) lines.add("silt;");
    if (r.nextInt(3) == 0) java.util.Collections.shuffle(lines, r);
    b.setLength(0);
    for (String line : lines) b.append(line).append(r.nextInt(4) == 0 ? " " : "");
    return b.toString().getBytes(StandardCharsets.ISO_8859_1);
  }

  private static byte[] badText(Random r) {
    if (r.nextInt(3) > 0) {
      byte[] t = goodText(r);
      int changes = 1 + r.nextInt(2);
      for (int i = 0; i < changes && t.length > 0; i++) {
        String signs = "0123456789; ,aZ~";
        int at = r.nextInt(t.length);
        t[at] = r.nextInt(8) == 0 ? (byte) r.nextInt(256) : (byte) signs.charAt(r.nextInt(signs.length()));
      }
      return r.nextInt(3) == 0 && t.length > 0 ? Arrays.copyOf(t, r.nextInt(t.length)) : t;
    }
    String[] words = {"plain", "row", "spring", "farm", "ground", "law", "silt", ";", "silts", "1", "2", "3", "0", "9",
      "24", "25", "100", "05", " ", "  ", "!", "plain 2 3;", "row 1 2 3;", "row 2 1 1 1 1 1", "farm 3;", "farm 4;", "farm 5;",
      "ground 0 0 1 2 3 4 5 6 7", "ground 1 8;", "ground 2 10 11;", "spring 12;", "law 2;", "silt;", "row 4 1;"};
    StringBuilder b = new StringBuilder();
    int n = r.nextInt(9);
    for (int i = 0; i < n; i++) b.append(words[r.nextInt(words.length)]).append(r.nextInt(3) > 0 ? " " : "");
    return b.toString().getBytes(StandardCharsets.ISO_8859_1);
  }

  private static int pick(Random r, int low, int high) {
    int v = r.nextInt(40);
    if (v == 0) return Integer.MIN_VALUE;
    if (v == 1) return Integer.MAX_VALUE;
    return v < 4 ? low - 1 : v < 6 ? high + 1 : low + r.nextInt(high - low + 1);
  }

  private static int pickYear(Random r, Model m) {
    int v = r.nextInt(12);
    if (v == 0) return pick(r, 0, 17575);
    if (v == 1) return r.nextInt(26) + 26 * r.nextInt(26);
    List<Integer> can = m.yearsThatCan();
    return can.get(r.nextInt(can.size()));
  }

  private static void draw(Random r, Model m, List<Object[]> to) {
    int cells = m.wide * m.high;
    // A plain that few farms dig asks little of the class: it is told anew soon.
    if (m.worth.size() < 2 && r.nextInt(12) == 0) to.addAll(tellText(r, goodText(r)));
    if (m.seen.size() > 2 && r.nextInt(3) > 0) to.add(new Object[] {"forget", r.nextInt(3)});
    int c = pick(r, 0, cells - 1), f = pick(r, 0, Math.max(0, m.worth.size() - 1));
    switch (r.nextInt(36)) {
      case 0: to.add(new Object[] {"feed", r.nextLong()}); if (r.nextInt(30) == 0) for (int i = 0; i < 42; i++) to.add(new Object[] {"feed", r.nextLong()}); break;
      case 1: to.add(new Object[] {"end", pick(r, 0, Math.max(1, m.tape.length()))}); break;
      case 2: if (r.nextInt(3) == 0) to.addAll(tellText(r, r.nextInt(6) == 0 ? goodText(r) : badText(r))); break;
      case 3: to.add(new Object[] {"rule", pick(r, 0, 6)}); break;
      case 4: to.add(new Object[] {"cell", c, pick(r, 0, 1)}); break;
      case 5: case 6: to.add(new Object[] {"farm", f, pick(r, 0, 3)}); break;
      case 7: to.add(new Object[] {"bed", pick(r, 0, cells)}); break;
      case 8: to.add(new Object[] {"dam", c, r.nextInt(3) > 0 ? r.nextInt(20) : pick(r, 0, 99)}); break;
      case 9: if (r.nextInt(2) == 0) to.add(new Object[] {"move", c}); break;
      case 10: to.add(new Object[] {"law", pick(r, 0, 2)}); break;
      case 11: to.add(new Object[] {"silt", r.nextInt(3) > 0}); break;
      case 12: to.add(new Object[] {"price", f, pick(r, 1, 9)}); break;
      case 13: case 14: to.add(new Object[] {"year", pickYear(r, m)}); break;
      case 15: to.add(new Object[] {"would", pickYear(r, m), f}); break;
      case 16: for (int i = r.nextInt(4); i >= 0; i--) to.add(new Object[] {"tell", pickYear(r, m)}); to.add(new Object[] {"judge", 0}); to.add(new Object[] {"judge", 1}); break;
      case 17: to.add(new Object[] {"drop", pick(r, 0, 6)}); break;
      case 18: to.add(new Object[] {"judge", pick(r, 0, 1)}); break;
      case 19: { int g = Math.max(0, Math.min(2, f)); to.add(new Object[] {"alone", f, c, pick(r, 0, 1)}); for (int i = 0; i < 4; i++) to.add(new Object[] {"alone", g, c, i == 3 ? 0 : 10 + i}); break; }
      case 20: to.add(new Object[] {"alone", f, c, pick(r, 10, 12)}); break;
      case 21: to.add(new Object[] {"together", c, pick(r, 0, 1)}); break;
      case 22: to.add(new Object[] {"selfish", r.nextBoolean() ? 0 : pick(r, 10, 12)}); break;
      case 23: to.add(new Object[] {"rests", pick(r, 0, 1)}); break;
      case 24: to.add(new Object[] {"breaks", pickYear(r, m)}); break;
      case 25: to.add(new Object[] {"stands", c}); break;
      case 26: to.add(new Object[] {"again", pick(r, 0, 1)}); break;
      case 27: to.add(new Object[] {"odds", c, pick(r, 0, 1)}); break;
      case 28: for (int i = r.nextInt(4) == 0 ? 9 : r.nextInt(2); i >= 0; i--) to.add(new Object[] {"see", i == 0 ? c : r.nextInt(cells), r.nextBoolean()}); break;
      case 29: to.add(new Object[] {"forget", r.nextInt(3) == 0 ? pick(r, 0, 8) : r.nextInt(3)}); break;
      case 30: to.add(new Object[] {"fits", pick(r, 0, 3)}); break;
      case 31: to.add(new Object[] {"keep", pick(r, 0, 1)}); break;
      case 32: to.add(new Object[] {"back", pick(r, 0, 1)}); break;
      case 33: drawSheet(r, m, to); break;
      case 34: to.add(new Object[] {"read", pick(r, 0, 3), pick(r, 0, 2), pick(r, 0, 10), pick(r, 0, 20)}); to.add(new Object[] {"torn"}); break;
      default: to.add(new Object[] {"count", pick(r, 0, 7)}); to.add(new Object[] {"fault"}); break;
    }
  }

  private static void drawSheet(Random r, Model m, List<Object[]> to) {
    int k = pick(r, 0, 3), lane = pick(r, 0, 2);
    if (r.nextInt(3) > 0) to.add(new Object[] {"sheet", k, lane, r.nextInt(4) == 0 ? pick(r, 0, 40) : r.nextInt(8)});
    int n = r.nextInt(6);
    for (int i = 0; i < n; i++) {
      int v = r.nextInt(5) == 0 ? r.nextInt() : r.nextInt(3) == 0 ? pickYear(r, m) : 0;
      to.add(new Object[] {"lay", k, r.nextInt(6) == 0 ? pick(r, 0, 40) : i, v});
    }
    to.add(new Object[] {"read", k, lane, r.nextInt(3) == 0 ? pick(r, 0, 10) : 0, r.nextInt(8)});
    to.add(new Object[] {"torn"});
  }

  // ---- the slow program

  private static final class Fault extends RuntimeException {
    final int number, place;
    Fault(int number, int place) { this.number = number; this.place = place; }
  }

  /** What an image holds. */
  private static final class Image {
    int[] heights; int spring, law, years; boolean silt;
    List<Integer> worth, told; List<int[]> seen;
  }

  public static final class Model {
    StringBuilder tape = new StringBuilder();
    String latest = "";
    int fault = 0, torn = 0;
    int wide = 3, high = 3, spring = 0, law = 0, years = 0;
    boolean silt = false;
    int[] heights = new int[9];
    List<Integer> worth = new ArrayList<>();
    int[] owner = fresh(9);
    List<Integer> told = new ArrayList<>();
    List<int[]> seen = new ArrayList<>();
    Image[] images = new Image[2];
    Object[] sheets = new Object[4];

    static int[] fresh(int n) { int[] a = new int[n]; Arrays.fill(a, -1); return a; }

    public int feed(long v) {
      if (tape.length() > 312) return -3;
      for (int shift = 56; shift >= 0; shift -= 8) tape.append((char) (v >>> shift & 255));
      return tape.length();
    }
    public int end(int n) {
      int had = tape.length();
      if (n < 0 || n > had) return -1;
      tape.setLength(n);
      return had;
    }
    public int text() {
      String t = tape.toString();
      tape.setLength(0);
      latest = t;
      try {
        int lines = new Telling(t).all(this);
        fault = 0;
        return lines;
      } catch (Fault f) {
        fault = f.number;
        return -10 - f.place;
      }
    }
    public int fault() { return fault; }
    public int rule(int what) {
      int[] all = {wide, high, spring, worth.size(), law, silt ? 1 : 0, years};
      return what < 0 || what > 6 ? -1 : all[what];
    }
    boolean noCell(int c) { return c < 0 || c >= heights.length; }
    boolean noFarm(int f) { return f < 0 || f >= worth.size(); }
    public int cell(int c, int what) {
      if (noCell(c) || what != 0 && what != 1) return -1;
      return what == 0 ? heights[c] : owner[c] < 0 ? -4 : owner[c];
    }
    public int farm(int f, int what) {
      if (noFarm(f) || what < 0 || what > 3) return -1;
      int ground = 0, may = 0;
      for (int c = 0; c < owner.length; c++) {
        if (owner[c] == f) ground += 1 << c;
        if (mayCut(heights, f, c)) may += 1 << c;
      }
      return what == 0 ? worth.get(f) : what == 1 ? ground : what == 2 ? has(heights, f) : may;
    }
    public int bed(int i) {
      if (i < 0) return -1;
      List<Integer> b = river(heights);
      return i < b.size() ? b.get(i) : -4;
    }
    public int dam(int c, int v) {
      if (noCell(c) || v < 0 || v > 99) return -1;
      int was = heights[c];
      heights[c] = v;
      return was;
    }
    public int move(int c) { if (noCell(c)) return -1; int was = spring; spring = c; return was; }
    public int law(int v) { if (v < 0 || v > 2) return -1; int was = law; law = v; return was; }
    public int silt(boolean is) { int was = silt ? 1 : 0; silt = is; return was; }
    public int price(int f, int v) { if (noFarm(f) || v < 1 || v > 9) return -1; return worth.set(f, v); }

    // THE BED: a walk that asks every cell of the plain whether it is next to the latest one.
    List<Integer> river(int[] h) {
      List<Integer> b = new ArrayList<>(List.of(spring));
      while (true) {
        int at = b.get(b.size() - 1), best = -1;
        for (int c : around(at)) {
          if (!b.contains(c) && h[c] <= h[at] && (best < 0 || h[c] < h[best])) best = c;
        }
        if (best < 0) return b;
        b.add(best);
      }
    }
    List<Integer> around(int c) {
      List<Integer> a = new ArrayList<>();
      int x = c % wide, y = c / wide;
      int[][] ways = {{0, -1}, {1, 0}, {0, 1}, {-1, 0}};
      for (int[] w : ways) {
        int xx = x + w[0], yy = y + w[1];
        if (xx >= 0 && xx < wide && yy >= 0 && yy < high) a.add(yy * wide + xx);
      }
      return a;
    }
    boolean mayCut(int[] h, int f, int c) {
      if (c < 0 || c >= h.length || owner[c] != f || f >= worth.size() || h[c] < 3) return false;
      if (law == 0) return true;
      List<Integer> b = river(h);
      boolean in = b.contains(c), next = false;
      for (int d : around(c)) next |= b.contains(d);
      return law == 1 ? in || next : next && !in;
    }
    int[] digits(int y) { return new int[] {y % 26, y / 26 % 26, y / 676}; }
    int refusedBy(int[] h, int y) {
      int[] d = digits(y);
      for (int f = 0; f < 3; f++) if (d[f] != 0 && !mayCut(h, f, d[f] - 1)) return f;
      return -1;
    }
    int[] behind(int[] h, int y) {
      int[] n = h.clone();
      for (int d : digits(y)) if (d > 0) n[d - 1] -= 3;
      List<Integer> b = river(n);
      if (silt && b.size() > 3) {
        int lost = 0;
        for (int c : b.subList(1, 4)) if (n[c] != 0) { n[c] -= 1; lost += 1; }
        n[b.get(b.size() - 1)] += lost;
      }
      return n;
    }
    int has(int[] h, int f) {
      int all = 0;
      for (int c : river(h)) if (owner[c] == f) all += worth.get(f);
      return all;
    }
    List<Integer> yearsThatCan() {
      boolean[][] ok = new boolean[3][26];
      for (int f = 0; f < 3; f++) for (int d = 0; d < 26; d++) ok[f][d] = d == 0 || mayCut(heights, f, d - 1);
      List<Integer> can = new ArrayList<>();
      for (int y = 0; y <= 17575; y++) if (ok[0][y % 26] && ok[1][y / 26 % 26] && ok[2][y / 676]) can.add(y);
      return can;
    }
    int refusal(int[] h, int y, int gone) { return y < 0 || y > 17575 ? -1 : refusedBy(h, y) >= 0 ? -2 : gone == 999 ? -3 : 0; }
    public int year(int y) {
      int no = refusal(heights, y, years);
      if (no != 0) return no;
      heights = behind(heights, y);
      years++;
      return river(heights).size();
    }
    public int would(int y, int f) {
      if (y < 0 || y > 17575 || noFarm(f)) return -1;
      return refusedBy(heights, y) >= 0 ? -2 : has(behind(heights, y), f);
    }
    public int tell(int y) {
      if (y < 0 || y > 17575) return -1;
      if (told.size() == 6) return -3;
      told.add(y);
      return told.size();
    }
    public int drop(int n) {
      int were = told.size();
      if (n < 0 || n > were) return -1;
      told = new ArrayList<>(told.subList(0, n));
      return were;
    }
    public int judge(int what) {
      if (what != 0 && what != 1) return -1;
      int[] h = heights;
      for (int i = 0; i < told.size(); i++) {
        int f = refusedBy(h, told.get(i));
        if (f >= 0) return what == 0 ? i : f < worth.size() ? f : -4;
        h = behind(h, told.get(i));
      }
      return -4;
    }
    public int alone(int f, int c, int what) {
      if (noFarm(f) || noCell(c) || !List.of(0, 10, 11, 12).contains(what)) return -1;
      // Rows of one length stand in the order of their options, so the first that brings it is the one.
      List<List<Integer>> rows = new ArrayList<>();
      List<int[]> lands = new ArrayList<>();
      rows.add(List.of());
      lands.add(heights);
      for (int n = 0; n <= 3; n++) {
        for (int i = 0; i < rows.size(); i++) {
          if (river(lands.get(i)).contains(c)) return what == 0 ? n : what - 10 < n ? rows.get(i).get(what - 10) : -4;
        }
        if (n == 3) break;
        List<List<Integer>> longer = new ArrayList<>();
        List<int[]> later = new ArrayList<>();
        for (int i = 0; i < rows.size(); i++) {
          for (int d = 0; d < 26; d++) {
            if (d > 0 && !mayCut(lands.get(i), f, d - 1)) continue;
            List<Integer> row = new ArrayList<>(rows.get(i));
            row.add(d == 0 ? 25 : d - 1);
            longer.add(row);
            later.add(behind(lands.get(i), d * new int[] {1, 26, 676}[f]));
          }
        }
        rows = longer;
        lands = later;
      }
      return -4;
    }
    int cuts(int y) { int n = 0; for (int d : digits(y)) if (d > 0) n++; return n; }
    public int together(int c, int what) {
      if (noCell(c) || what != 0 && what != 1) return -1;
      for (int n = 0; n <= 3; n++) {
        for (int y : yearsThatCan()) if (cuts(y) == n && river(behind(heights, y)).contains(c)) return what == 0 ? n : y;
      }
      return -4;
    }
    int play(int f, int y) {
      if (f == worth.size()) return y;
      int best = -1, most = -1;
      for (int d = 0; d < 26; d++) {
        if (d > 0 && !mayCut(heights, f, d - 1)) continue;
        int end = play(f + 1, y + d * new int[] {1, 26, 676}[f]);
        int got = has(behind(heights, end), f);
        if (got > most) { most = got; best = end; }
      }
      return best;
    }
    public int selfish(int what) {
      if (what != 0 && (what < 10 || noFarm(what - 10))) return -1;
      int y = play(0, 0);
      return what == 0 ? y : has(behind(heights, y), what - 10);
    }
    int breakers(int y, Map<Integer, int[]> known) {
      int bits = 0;
      for (int f = 0; f < worth.size(); f++) {
        int w = new int[] {1, 26, 676}[f], base = y - digits(y)[f] * w;
        for (int d = 0; d < 26; d++) {
          int[] other = known.get(base + d * w);
          if (other != null && other[f] > known.get(y)[f]) bits |= 1 << f;
        }
      }
      return bits;
    }
    Map<Integer, int[]> allHave() {
      Map<Integer, int[]> known = new HashMap<>();
      for (int y : yearsThatCan()) {
        int[] h = behind(heights, y), got = new int[worth.size()];
        for (int f = 0; f < got.length; f++) got[f] = has(h, f);
        known.put(y, got);
      }
      return known;
    }
    public int rests(int what) {
      if (what != 0 && what != 1) return -1;
      Map<Integer, int[]> known = allHave();
      int n = 0;
      for (int y : yearsThatCan()) {
        if (breakers(y, known) == 0) { if (what == 1) return y; n++; }
      }
      return what == 0 ? n : -4;
    }
    public int breaks(int y) {
      if (y < 0 || y > 17575) return -1;
      return refusedBy(heights, y) >= 0 ? -2 : breakers(y, allHave());
    }
    public int stands(int c) {
      if (noCell(c)) return -1;
      if (!river(heights).contains(c)) return -2;
      int[] h = heights;
      int n = 0;
      while (n < 20) {
        h = behind(h, 0);
        if (!river(h).contains(c)) break;
        n++;
      }
      return n;
    }
    public int again(int what) {
      if (what != 0 && what != 1) return -1;
      Map<String, Integer> at = new HashMap<>();
      int[] h = heights;
      for (int n = 0; n <= 60; n++) {
        Integer first = at.put(Arrays.toString(h), n);
        if (first != null) return what == 0 ? first : n - first;
        h = behind(h, 0);
      }
      return -4;
    }
    public long odds(int c, int what) {
      if (noCell(c) || what != 0 && what != 1) return -1;
      long in = 0, all = 0;
      for (int y : yearsThatCan()) { all++; if (river(behind(heights, y)).contains(c)) in++; }
      for (long d = all; d > 1; d--) if (in % d == 0 && all % d == 0) { in /= d; all /= d; }
      return what == 0 ? in : all;
    }
    public int see(int c, boolean is) {
      if (noCell(c)) return -1;
      if (seen.size() == 8) return -3;
      seen.add(new int[] {c, is ? 1 : 0});
      return seen.size();
    }
    public int forget(int n) {
      int were = seen.size();
      if (n < 0 || n > were) return -1;
      seen = new ArrayList<>(seen.subList(0, n));
      return were;
    }
    public int fits(int what) {
      if (what < 0 || what > 3) return -1;
      List<Integer> fit = new ArrayList<>();
      for (int y : yearsThatCan()) {
        List<Integer> b = river(behind(heights, y));
        boolean so = true;
        for (int[] s : seen) so &= b.contains(s[0]) == (s[1] == 1);
        if (so) fit.add(y);
      }
      if (what == 0) return fit.size();
      if (fit.isEmpty()) return -4;
      if (what == 1) return fit.get(0);
      int bits = 0;
      for (int f = 0; f < worth.size(); f++) {
        int times = 0;
        for (int y : fit) if (digits(y)[f] > 0) times++;
        if (times == (what == 2 ? fit.size() : 0)) bits += 1 << f;
      }
      return bits;
    }
    public int keep(int k) {
      if (k != 0 && k != 1) return -1;
      int was = images[k] == null ? 0 : 1;
      Image i = images[k] = new Image();
      i.heights = heights.clone(); i.spring = spring; i.law = law; i.silt = silt; i.years = years;
      i.worth = new ArrayList<>(worth); i.told = new ArrayList<>(told); i.seen = new ArrayList<>(seen);
      return was;
    }
    public int back(int k) {
      if (k != 0 && k != 1) return -1;
      Image i = images[k];
      if (i == null) return -2;
      heights = i.heights.clone(); spring = i.spring; law = i.law; silt = i.silt; years = i.years;
      worth = new ArrayList<>(i.worth); told = new ArrayList<>(i.told); seen = new ArrayList<>(i.seen);
      return years;
    }
    public int sheet(int k, int lane, int n) {
      if (k < 0 || k > 3 || lane < 0 || lane > 2 || n > 40) return -1;
      try {
        sheets[k] = lane == 0 ? new byte[n] : lane == 1 ? new short[n] : new int[n];
      } catch (NegativeArraySizeException e) { return -14; }
      return 1;
    }
    public int lay(int k, int i, int v) {
      if (k < 0 || k > 3) return -1;
      try {
        if (sheets[k] instanceof byte[] b) b[i] = (byte) v;
        else if (sheets[k] instanceof short[] s) s[i] = (short) v;
        else ((int[]) sheets[k])[i] = v;
      } catch (NullPointerException e) { return -11;
      } catch (ArrayIndexOutOfBoundsException e) { return -12; }
      return 1;
    }
    public int read(int k, int lane, int f, int n) {
      if (k < 0 || k > 3 || lane < 0 || lane > 2 || n < 0 || n > 20) return -1;
      int[] h = heights;
      int went = 0, found = 0;
      try {
        for (int i = 0; i < n; i++) {
          int y = lane == 0 ? ((byte[]) sheets[k])[f + i] : lane == 1 ? ((short[]) sheets[k])[f + i] : ((int[]) sheets[k])[f + i];
          if (refusal(h, y, years + i) != 0) return -20 - i;
          h = behind(h, y);
          went++;
        }
      } catch (NullPointerException e) { found = 1;
      } catch (ArrayIndexOutOfBoundsException e) { found = 2;
      } catch (ClassCastException e) { found = 3; }
      heights = h;
      years += went;
      torn = found;
      return went;
    }
    public int torn() { return torn; }
    public int count(int what) {
      switch (what) {
        case 0: return river(heights).size();
        case 1: return told.size();
        case 2: return seen.size();
        case 3: return (images[0] == null ? 0 : 1) + (images[1] == null ? 0 : 1);
        case 4: return tape.length();
        case 5: return sheets[0] == null ? -4 : java.lang.reflect.Array.getLength(sheets[0]);
        case 6: return Arrays.stream(heights).sum();
        case 7: return yearsThatCan().size();
        default: return -1;
      }
    }
  }

  /** Reads a text the slow way: tokens by a pattern, faults by an exception. */
  private static final class Telling {
    final String t;
    int at = 0, start = 0;
    String token = "";
    final Map<String, Integer> times = new HashMap<>();
    final Map<Integer, List<Integer>> rows = new HashMap<>(), grounds = new HashMap<>();
    final List<Integer> worths = new ArrayList<>();
    int wide = 3, high = 3, spring = 0, law = 0;

    Telling(String t) { this.t = t; }

    /** The next token; empty at the end. */
    void next() {
      while (at < t.length() && t.charAt(at) == ' ') at++;
      start = at;
      java.util.regex.Matcher m = java.util.regex.Pattern.compile("[a-z]+|[0-9]+|;").matcher(t);
      m.region(at, t.length());
      if (at == t.length()) { token = ""; return; }
      if (!m.lookingAt()) throw new Fault(1, at);
      token = m.group();
      at = m.end();
      if (isNumber() && token.length() > 2) throw new Fault(1, start);
    }
    boolean isNumber() { return !token.isEmpty() && Character.isDigit(token.charAt(0)); }
    int number(int low, int high) {
      if (!isNumber()) throw new Fault(2, start);
      int v = Integer.parseInt(token);
      if (v < low || v > high) throw new Fault(3, start);
      return v;
    }
    void stop() { next(); if (!token.equals(";")) throw new Fault(2, start); }

    int all(Model m) {
      int lines = 0;
      for (next(); !token.isEmpty(); next()) {
        line();
        lines++;
      }
      check();
      tell(m);
      return lines;
    }
    void line() {
      String name = token;
      int n = times.merge(name, 1, Integer::sum);
      if (n > 1 && List.of("plain", "spring", "law", "silt").contains(name)) throw new Fault(4, start);
      switch (name) {
        case "plain": next(); wide = number(2, 5); next(); high = number(2, 5); stop(); break;
        case "spring": next(); spring = number(0, 24); stop(); break;
        case "law": next(); law = number(0, 2); stop(); break;
        case "silt": stop(); break;
        case "farm": if (n > 3) throw new Fault(5, start); next(); worths.add(number(1, 9)); stop(); break;
        case "row": {
          next();
          int r = number(0, 4);
          if (rows.containsKey(r)) throw new Fault(4, start);
          rows.put(r, new ArrayList<>());
          next();
          do {
            int v = number(0, 9);
            if (rows.get(r).size() == 5) throw new Fault(5, start);
            rows.get(r).add(v);
            next();
          } while (!token.equals(";"));
          break;
        }
        case "ground": {
          next();
          int f = number(0, 2);
          next();
          do {
            int c = number(0, 24);
            for (List<Integer> g : grounds.values()) if (g.contains(c)) throw new Fault(4, start);
            List<Integer> g = grounds.computeIfAbsent(f, k -> new ArrayList<>());
            if (g.size() == 8) throw new Fault(5, start);
            g.add(c);
            next();
          } while (!token.equals(";"));
          break;
        }
        default: throw new Fault(2, start);
      }
    }
    void check() {
      boolean ok = spring < wide * high;
      for (int r : rows.keySet()) ok &= r < high && rows.get(r).size() <= wide;
      for (int f : grounds.keySet()) {
        ok &= f < worths.size();
        for (int c : grounds.get(f)) ok &= c < wide * high;
      }
      if (!ok) throw new Fault(6, t.length());
    }
    void tell(Model m) {
      m.wide = wide; m.high = high; m.spring = spring; m.law = law;
      m.silt = times.containsKey("silt");
      m.years = 0;
      m.worth = new ArrayList<>(worths);
      m.heights = new int[wide * high];
      m.owner = Model.fresh(wide * high);
      rows.forEach((r, v) -> { for (int i = 0; i < v.size(); i++) m.heights[r * wide + i] = 3 * v.get(i); });
      grounds.forEach((f, g) -> { for (int c : g) m.owner[c] = f; });
      m.told = new ArrayList<>();
      m.seen = new ArrayList<>();
      m.images = new Image[2];
    }
  }
}
