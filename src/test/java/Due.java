import java.lang.reflect.Method;
import java.nio.charset.StandardCharsets;
import java.util.HashMap;
import java.util.Map;

/** What the tests share: answers beside those that are due, calls as words, texts on the tape. */
class Due {
  static final int BAD = -1, STATE = -2, FULL = -3, NONE = -4;
  static final int LOW = Integer.MIN_VALUE, TOP = Integer.MAX_VALUE;
  /** The calls by the numbers of their promises, from 2 on. */
  private static final String[] CALLS = {
    "feed", "end", "text", "fault", "rule", "cell", "farm", "bed", "dam", "move", "law", "silt", "price", "year",
    "would", "tell", "drop", "judge", "alone", "together", "selfish", "rests", "breaks", "stands", "again", "odds",
    "see", "forget", "fits", "keep", "back", "sheet", "lay", "read", "torn", "count"
  };
  private static final Map<String, Method> methods = new HashMap<>();
  private static int wrong = 0, asked = 0;

  static void due(int promise, String call, long got, long want) {
    asked++;
    if (got != want) {
      wrong++;
      System.out.println("promise " + promise + ": " + call + " answered " + got + ", due is " + want);
    }
  }

  static void must(boolean holds, String what) {
    asked++;
    if (!holds) {
      wrong++;
      System.out.println(what);
    }
  }

  static void finish() {
    System.out.println(wrong == 0 ? asked + " answers are as due" : wrong + " of " + asked + " answers are not as due");
    if (wrong != 0) System.exit(1);
  }

  /** Rows as "dam 9 0 = BAD": a call with its numbers, and the answer that is due; without one, the call is only made. */
  static void run(RiverDiggers x, String... rows) {
    StringBuilder before = new StringBuilder();
    for (String row : rows) {
      String[] sides = row.split(" = ");
      String call = sides[0].trim();
      long got = call(x, call);
      if (sides.length > 1) due(promiseOf(call), call + before, got, number(sides[1].trim()));
      before.append(before.length() == 0 ? " behind " : ", ").append(call);
    }
  }

  static int promiseOf(String call) {
    String name = call.split(" ")[0];
    for (int i = 0; i < CALLS.length; i++) if (CALLS[i].equals(name)) return i + 2;
    throw new IllegalArgumentException("no call " + name);
  }

  /** Makes one call that is told in words. */
  static long call(RiverDiggers x, String call) {
    String[] words = call.split(" ");
    try {
      Method m = methods.computeIfAbsent(words[0], Due::method);
      Class<?>[] types = m.getParameterTypes();
      if (types.length != words.length - 1) throw new IllegalArgumentException(call);
      Object[] with = new Object[types.length];
      for (int i = 0; i < with.length; i++) with[i] = argument(types[i], words[i + 1]);
      return ((Number) m.invoke(x, with)).longValue();
    } catch (ReflectiveOperationException e) {
      throw new IllegalStateException(call, e);
    }
  }

  private static Method method(String name) {
    for (Method m : RiverDiggers.class.getMethods()) if (m.getName().equals(name)) return m;
    throw new IllegalArgumentException("no call " + name);
  }

  private static Object argument(Class<?> type, String word) {
    if (type == boolean.class) {
      if (!word.equals("true") && !word.equals("false")) throw new IllegalArgumentException(word);
      return word.equals("true");
    }
    long v = number(word);
    if (type == long.class) return v;
    return Math.toIntExact(v);
  }

  private static long number(String word) {
    switch (word) {
      case "BAD": return BAD;
      case "STATE": return STATE;
      case "FULL": return FULL;
      case "NONE": return NONE;
      case "LOW": return LOW;
      case "TOP": return TOP;
      default: return Long.parseLong(word);
    }
  }

  /** Puts a text on the tape, behind what is there, without the blanks that fill its last eight bytes. */
  static void feed(RiverDiggers x, byte[] t) {
    int had = x.count(4);
    for (int i = 0; i < t.length; i += 8) {
      long v = 0;
      for (int j = 0; j < 8; j++) v = v << 8 | (i + j < t.length ? t[i + j] & 255 : ' ');
      x.feed(v);
    }
    x.end(had + t.length);
  }

  static void feed(RiverDiggers x, String t) { feed(x, t.getBytes(StandardCharsets.ISO_8859_1)); }

  /** An object to which the text was told. */
  static RiverDiggers of(String t) {
    RiverDiggers x = new RiverDiggers();
    feed(x, t);
    int lines = x.text();
    if (lines < 0) due(4, "text of " + t, lines, 0);
    return x;
  }
}
