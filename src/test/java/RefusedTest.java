import java.util.ArrayList;
import java.util.List;

/**
 * "What is refused changes nothing (but THE TAPE, as told)": two objects are told the same, one is asked for what it has
 * to refuse, then all that can be asked is asked of both. So too for each call that only asks.
 */
public final class RefusedTest extends Due {
  private static final int MOST_CALLS = 512;
  private static final String TEXT = "row 0 5 4 4;row 1 4 3 4;row 2 4 2 1;farm 2;farm 3;farm 5;ground 0 1 2 5;ground 1 3 6 7;ground 2 8;";

  public static void main(String[] args) {
    String[][] states = {fresh(), busy(), full(), late()};
    String[][] refusals = {refusedFresh(), refusedBusy(), refusedFull(), refusedLate()};
    for (int i = 0; i < states.length; i++) {
      for (String row : refusedAlways()) refused(states[i], row);
      for (String row : refusals[i]) refused(states[i], row);
      for (String row : questions()) refused(states[i], row);
    }
    for (String[] state : states) for (Object[] row : badTexts()) refusedText(state, (String) row[0], (int) row[1], (int) row[2]);
    sees();
    askedAnew();
    finish();
  }

  // ---- states that a refusal could spoil

  private static String[] fresh() { return new String[0]; }

  /** Something of everything, and room for more. */
  private static String[] busy() {
    return rows(TEXT + "law 1;silt;", "year 0", "tell 2", "see 4 true", "keep 0", "year 2", "price 1 4", "tell 0", "tell 9", "see 1 true", "see 2 false", "keep 1", "year 0",
        "drop 2", "move 3", "move 0", "sheet 0 0 3", "lay 0 0 2", "lay 0 2 9", "sheet 1 1 2", "lay 1 1 7", "sheet 2 2 1", "lay 2 0 -1", "read 0 0 1 1", "read 1 1 1 0",
        "read 0 0 3 1", "feed " + eight("law 9;  "), "text", "feed " + eight("law 2;  "), "end 6");
  }

  /** As much as can be told and seen, both images, a full tape, sheets of 0 and of 40 cells. */
  private static String[] full() {
    List<String> all = new ArrayList<>(List.of(rows(TEXT + "silt;", "year 0", "keep 0", "year 2", "keep 1")));
    for (int i = 0; i < 6; i++) all.add("tell " + (i == 4 ? 9 : i == 1 ? 2 : 0));
    for (int i = 0; i < 8; i++) all.add("see " + (i == 7 ? "2 true" : i == 3 ? "1 true" : "0 true"));
    all.addAll(List.of("sheet 0 1 40", "lay 0 0 2", "lay 0 39 9", "sheet 1 0 0", "sheet 2 2 40", "read 3 1 0 1", "end 0"));
    for (int i = 0; i < 40; i++) all.add("feed " + eight(i == 0 ? "law 2;  " : i == 39 ? "   silt;" : "        "));
    return all.toArray(new String[0]);
  }

  /** The 999th year has gone. */
  private static String[] late() {
    List<String> all = new ArrayList<>(List.of(rows(TEXT + "law 2;", "sheet 0 0 20", "year 3", "keep 0")));
    for (int i = 0; i < 49; i++) all.add("read 0 0 0 20");
    all.addAll(List.of("read 0 0 0 18", "tell 3", "see 0 false", "read 0 1 0 1", "feed " + eight("spring 5"), "feed " + eight(";       ")));
    return all.toArray(new String[0]);
  }

  private static long eight(String t) {
    long v = 0;
    for (int i = 0; i < 8; i++) v = v << 8 | t.charAt(i);
    return v;
  }

  /** The calls that tell a text, then some more. */
  private static String[] rows(String text, String... more) {
    List<String> all = new ArrayList<>();
    for (int i = 0; i < text.length(); i += 8) all.add("feed " + eight((text + "        ").substring(i, i + 8)));
    all.add("text");
    all.addAll(List.of(more));
    return all.toArray(new String[0]);
  }

  // ---- what is refused

  private static String[] refusedAlways() {
    List<String> all = new ArrayList<>();
    for (String v : new String[] {"-1", "LOW", "TOP"}) {
      for (String call : new String[] {"end", "rule", "move", "law", "year", "tell", "drop", "judge", "selfish", "rests", "breaks", "stands", "again", "forget", "fits",
          "keep", "back", "count"}) {
        all.add(call + " " + v + " = BAD");
      }
      for (String call : new String[] {"cell V 0", "cell 0 V", "farm V 0", "farm 0 V", "dam V 5", "dam 0 V", "dam 8 V", "price V 5", "price 0 V", "would V 0", "would 0 V",
          "alone V 0 0", "alone 0 V 0", "alone 0 0 V", "together V 0", "together 0 V", "odds V 0", "odds 0 V", "see V true", "see V false", "sheet V 0 1", "sheet 0 V 1",
          "sheet V 0 -1", "lay V 0 5", "read V 0 0 1", "read 0 V 0 1", "read 0 0 0 V"}) {
        all.add(call.replace("V", v) + " = BAD");
      }
    }
    all.addAll(List.of("end 321 = BAD", "rule 7 = BAD", "cell 9 0 = BAD", "cell 0 2 = BAD", "farm 3 0 = BAD", "farm 0 4 = BAD", "bed -1 = BAD", "bed LOW = BAD",
        "bed 9 = NONE", "bed TOP = NONE", "dam 9 5 = BAD", "dam 0 100 = BAD", "dam 8 100 = BAD", "move 9 = BAD", "law 3 = BAD", "price 3 5 = BAD", "price 0 10 = BAD",
        "price 0 0 = BAD", "year 17576 = BAD", "year 17575 = STATE", "year 1 = STATE", "year 26 = STATE", "year 676 = STATE", "year 10 = STATE", "would 17576 0 = BAD",
        "would 0 3 = BAD", "tell 17576 = BAD", "drop 7 = BAD", "judge 2 = BAD", "alone 3 0 0 = BAD", "alone 0 9 0 = BAD", "alone 0 0 1 = BAD", "alone 0 0 9 = BAD",
        "alone 0 0 13 = BAD", "together 9 0 = BAD", "together 0 2 = BAD", "selfish 1 = BAD", "selfish 9 = BAD", "selfish 13 = BAD", "rests 2 = BAD", "breaks 17576 = BAD",
        "breaks 17575 = STATE", "breaks 1 = STATE", "stands 9 = BAD", "again 2 = BAD", "odds 9 0 = BAD", "odds 0 2 = BAD", "see 9 true = BAD", "see 9 false = BAD",
        "forget 9 = BAD", "fits 4 = BAD", "keep 2 = BAD", "back 2 = BAD", "sheet 4 0 1 = BAD", "sheet 0 3 1 = BAD", "sheet 0 0 41 = BAD", "sheet 0 0 TOP = BAD",
        "sheet 3 2 41 = BAD", "sheet 0 0 -1 = -14", "sheet 0 2 LOW = -14", "sheet 3 1 -1 = -14", "lay 4 0 5 = BAD", "lay 3 0 5 = -11", "lay 3 -1 5 = -11", "lay 3 40 5 = -11",
        "read 4 0 0 1 = BAD", "read 0 3 0 1 = BAD", "read 0 0 0 21 = BAD", "read 0 1 0 -1 = BAD", "count 8 = BAD"));
    return all.toArray(new String[0]);
  }

  private static String[] refusedFresh() {
    return new String[] {"end 1 = BAD", "farm 0 0 = BAD", "price 0 5 = BAD", "would 0 0 = BAD", "drop 1 = BAD", "judge 0 = NONE", "judge 1 = NONE", "alone 0 0 0 = BAD",
        "selfish 10 = BAD", "forget 1 = BAD", "back 0 = STATE", "back 1 = STATE", "lay 0 0 5 = -11", "lay 1 0 5 = -11", "lay 2 0 5 = -11", "count 5 = NONE"};
  }

  private static String[] refusedBusy() {
    return new String[] {"end 7 = BAD", "year 7 = STATE", "year 9 = STATE", "would 9 0 = STATE", "would 9 3 = BAD", "drop 3 = BAD", "forget 4 = BAD", "lay 0 -1 5 = -12",
        "lay 0 3 5 = -12", "lay 0 LOW 5 = -12", "lay 0 TOP 5 = -12", "lay 1 2 5 = -12", "lay 2 1 5 = -12", "read 0 0 0 3 = -22", "read 0 0 1 2 = -21", "read 0 0 2 20 = -20",
        "read 1 1 0 2 = -21", "read 2 2 0 1 = -20", "read 2 2 0 20 = -20", "alone 2 2 10 = NONE", "together 2 1 = NONE", "stands 5 = STATE"};
  }

  private static String[] refusedFull() {
    return new String[] {"feed 0 = FULL", "feed -1 = FULL", "feed " + eight("!!!!!!!!") + " = FULL", "tell 0 = FULL", "tell 17575 = FULL", "see 0 true = FULL", "see 8 false = FULL",
        "tell -1 = BAD", "see 9 true = BAD", "drop 7 = BAD", "forget 9 = BAD", "lay 0 40 5 = -12", "lay 0 -1 5 = -12", "lay 1 0 5 = -12", "lay 2 40 5 = -12",
        "read 0 1 20 20 = -39", "read 0 1 39 1 = -20", "read 0 1 39 2 = -20", "sheet 0 1 41 = BAD", "sheet 0 1 -1 = -14", "sheet 1 0 -1 = -14"};
  }

  private static String[] refusedLate() {
    return new String[] {"year 0 = FULL", "year 6 = FULL", "year 3 = STATE", "year 1 = STATE", "year -1 = BAD", "read 0 0 0 1 = -20", "read 0 0 0 20 = -20", "read 0 0 19 2 = -20", "end 17 = BAD",
        "back 1 = STATE", "drop 2 = BAD", "forget 2 = BAD"};
  }

  /** Calls that only ask: whatever they answer, nothing is changed. */
  private static String[] questions() {
    List<String> all = new ArrayList<>(List.of("fault", "torn", "selfish 0", "selfish 11", "rests 0", "rests 1", "breaks 0", "breaks 3", "would 0 0", "would 3 1", "judge 0", "judge 1",
        "alone 0 2 0", "alone 1 6 10", "alone 1 6 12", "alone 2 8 11", "together 2 0", "together 6 1", "stands 0", "stands 8", "again 0", "again 1", "odds 4 0", "odds 4 1"));
    for (int i = 0; i < 8; i++) all.addAll(List.of("rule " + i, "count " + i, "fits " + i / 2, "bed " + i, "farm " + i / 3 + " " + i % 4, "cell " + i + " " + i % 2));
    return all.toArray(new String[0]);
  }

  /** Texts that are refused, with the fault and its place. */
  private static Object[][] badTexts() {
    return new Object[][] {{"law 1;!", 1, 6}, {"plain 2 2;law 100;", 1, 14}, {"silt;zz", 2, 5}, {"plain 2 2;law 2;silt", 2, 20}, {"law 1;spring 8;law", 4, 15},
        {"plain 6 2;", 3, 6}, {"row 0 9 9 9;row 0 1;", 4, 16}, {"farm 9;ground 0 0 8 0;", 4, 20}, {"row 1 9 9 9 9 9 9;", 5, 16}, {"farm 9;farm 9;farm 9;farm 9;", 5, 21},
        {"farm 9;ground 0 0 1 2 3 4 5 6 7 8;", 5, 32}, {"plain 2 2;spring 4;", 6, 19}, {"law 2;silt;spring 5;row 3 9;", 6, 28}, {"row 0 9 9 9 9;", 6, 14},
        {"farm 9;ground 0 9;", 6, 18}, {"farm 9;ground 1 0;", 6, 18}};
  }

  // ---- two objects

  private static RiverDiggers made(String[] state) {
    RiverDiggers x = new RiverDiggers();
    for (String call : state) call(x, call);
    return x;
  }

  private static void refused(String[] state, String row) {
    String[] sides = row.split(" = ");
    RiverDiggers with = made(state), without = made(state);
    long got = call(with, sides[0]);
    if (sides.length > 1) run(made(state), row);
    Asked changed = new Asked(with, state.length + 1), same = new Asked(without, state.length + 1);
    must(changed.all().equals(same.all()), row + " answered " + got + " and changed something, in a state of " + state.length + " calls: " + differing(changed, same));
  }

  /** A refused text takes the tape away and tells its fault, and changes nothing else. */
  private static void refusedText(String[] state, String t, int fault, int place) {
    RiverDiggers with = made(state), without = made(state);
    with.end(0);
    feed(with, t);
    due(4, "text of '" + t + "'", with.text(), -10 - place);
    due(5, "fault of '" + t + "'", with.fault(), fault);
    due(37, "count(4) behind '" + t + "'", with.count(4), 0);
    // The other one loses its tape too; its latest fault is left out of what is asked.
    without.end(0);
    int told = state.length + 10 + t.length() / 8;
    Asked changed = new Asked(with, told), same = new Asked(without, told);
    must(changed.all().equals(same.all()), "text of '" + t + "' changed something, in a state of " + state.length + " calls: " + differing(changed, same));
  }

  private static String differing(Asked a, Asked b) {
    for (int i = 0; i < a.all().size() && i < b.all().size(); i++) if (!a.all().get(i).equals(b.all().get(i))) return a.all().get(i) + " instead of " + b.all().get(i);
    return "";
  }

  /** All that can be asked of a plain of 3 by 3, what spoils the rest behind the rest. */
  private static final class Asked {
    private final RiverDiggers x;
    private final List<String> answers = new ArrayList<>();
    private int calls;

    Asked(RiverDiggers x, int calls) {
      this.x = x;
      this.calls = calls;
      ask("torn", "rule 0", "rule 1", "rule 3");
      for (int what = 0; what < 8; what++) ask("count " + what);
      for (int c = 0; c < 9; c++) ask("cell " + c + " 1");
      for (int f = 0; f < 3; f++) ask("farm " + f + " 1");
      present();
      ask("selfish 0", "rests 0", "again 0");
      peel();
      for (int k = 0; k < 4; k++) sheet(k);
      for (int k = 0; k < 2; k++) {
        if (ask("back " + k) < 0) continue;
        present();
        peel();
      }
      ask("text", "fault");
      present();
      if (this.calls > MOST_CALLS) throw new IllegalStateException(this.calls + " calls");
    }

    List<String> all() { return answers; }

    private long ask(String... rows) {
      long got = 0;
      for (String call : rows) {
        got = Due.call(x, call);
        calls++;
        answers.add(call + " " + got);
      }
      return got;
    }

    private void present() {
      ask("rule 2", "rule 4", "rule 5", "rule 6", "count 1", "count 2", "count 6");
      for (int c = 0; c < 9; c++) ask("cell " + c + " 0");
      for (int i = 0; i < 5; i++) ask("bed " + i);
      for (int f = 0; f < 3; f++) ask("farm " + f + " 0", "farm " + f + " 3");
    }

    /** What was told and seen, from the last on. */
    private void peel() {
      for (int n = x.count(1); n >= 0; n--) ask("drop " + n, "judge 0", "judge 1");
      for (int n = x.count(2); n >= 0; n--) ask("forget " + n, "fits 0", "fits 1");
    }

    /** Its lane, then what its first and last cells hold: a cut, or a number that is refused. */
    private void sheet(int k) {
      for (int lane = 0; lane < 3; lane++) {
        ask("read " + k + " " + lane + " 0 1", "torn", "count 6");
        ask("read " + k + " " + lane + " 1 1", "read " + k + " " + lane + " 2 1", "read " + k + " " + lane + " 39 1", "torn", "count 6");
      }
    }
  }

  private static final String[] CHANGES = {"feed " + eight("law 1;  "), "end 5", "end 0", "text", "dam 0 1", "dam 8 99", "move 1", "law 0", "silt false", "price 0 9", "price 2 1", "year 0", "tell 0", "tell 2", "drop 1",
        "drop 0", "see 0 true", "see 0 false", "forget 2", "forget 0", "keep 0", "keep 1", "back 0", "back 1", "sheet 0 0 3", "sheet 0 1 3", "sheet 0 0 2", "sheet 1 1 2", "sheet 2 2 1",
        "sheet 3 0 0", "lay 0 0 0", "lay 0 1 9", "lay 0 2 0", "lay 1 1 0", "lay 2 0 0", "read 0 0 0 1", "read 0 0 0 2", "read 0 0 0 0", "read 0 1 0 1", "read 3 0 0 1"};

  /** The test itself: what is asked shows each change that a refused call could make. */
  private static void sees() {
    for (String change : CHANGES) {
      RiverDiggers with = made(busy()), without = made(busy());
      call(with, change);
      int told = busy().length + 1;
      must(!new Asked(with, told).all().equals(new Asked(without, told).all()), "what is asked does not show " + change);
    }
  }

  /** What was asked ahead of a change is asked anew behind it. */
  private static void askedAnew() {
    String[] questions = {"selfish 0", "rests 0", "breaks 0", "together 2 0", "odds 2 0", "fits 0", "alone 1 6 0", "would 0 0", "judge 0", "again 0", "stands 0"};
    for (String change : CHANGES) {
      for (String question : questions) {
        RiverDiggers with = made(busy()), without = made(busy());
        call(with, question);
        call(with, change);
        call(without, change);
        for (String behind : questions) due(promiseOf(behind), behind + " behind " + question + " and " + change, call(with, behind), call(without, behind));
      }
    }
  }
}
