/** Promises 27 to 30 at their bounds: how likely a bed is, what was seen, which years fit it. */
public final class LuckBoundsTest extends Due {
  private static final int[] PLACE = {1, 26, 676};

  public static void main(String[] args) {
    fractions();
    lowestTerms();
    oddsBounds();
    seeing();
    forgetting();
    fitting();
    fittingBits();
    fittingNone();
    seenBehindTheNextYear();
    finish();
  }

  /** A spring in the middle; farms north, east and south of it, all as high: the lowest gets it, of several the first. */
  private static RiverDiggers fields() {
    return of("row 0 9 2 9;row 1 9 2 2;row 2 9 2 9;spring 4;farm 1;farm 1;farm 1;ground 0 1;ground 1 5;ground 2 7;");
  }

  // ---- 27: "BY LUCK, that a CELL is in THE BED behind the YEAR: 0, 1. BAD."

  private static void fraction(RiverDiggers x, int c, int part, int of) {
    due(27, "odds(" + c + ", 0)", x.odds(c, 0), part);
    due(27, "odds(" + c + ", 1)", x.odds(c, 1), of);
  }

  private static void fractions() {
    RiverDiggers x = fields();
    fraction(x, 1, 5, 8);
    fraction(x, 5, 1, 4);
    fraction(x, 7, 1, 8);
    // Sure, and never: 1 by 1 and 0 by 1.
    fraction(x, 4, 1, 1);
    fraction(x, 0, 0, 1);
    fraction(x, 8, 0, 1);
    x.dam(7, 2);
    fraction(x, 7, 1, 1);
    fraction(x, 1, 0, 1);
    fraction(new RiverDiggers(), 8, 1, 1);
    RiverDiggers dry = new RiverDiggers();
    dry.dam(1, 1);
    fraction(dry, 1, 0, 1);
    fraction(dry, 0, 1, 1);
  }

  /** "Fractions are in lowest terms, the denominator above 0 (0 is 0 by 1)." */
  private static void lowestTerms() {
    // One cut of one farm brings it to cell 1; what the others choose is nothing to it.
    String[] others = {"", "farm 1;ground 1 8 9;", "farm 1;ground 1 8 9 10 11 12 13 14 15;",
        "farm 1;farm 1;ground 1 8 9 10 11 12 13 14 15;ground 2 16 17 18 19 20 21 22 23;"};
    int[] all = {9, 27, 81, 729};
    for (int i = 0; i < others.length; i++) {
      RiverDiggers x = of("plain 5 5;farm 1;ground 0 0 1 2 3 4 5 6 7;" + others[i]);
      for (int c = 0; c < 25; c++) x.dam(c, 99);
      x.dam(0, 50);
      x.dam(1, 53);
      due(37, "count(7)", x.count(7), all[i]);
      fraction(x, 1, 1, 9);
      fraction(x, 0, 1, 1);
      fraction(x, 2, 0, 1);
      // Some cells of the first farm less, and more numbers have a common divisor.
      x.dam(7, 2);
      fraction(x, 1, 1, 8);
      x.dam(5, 53);
      x.dam(3, 2);
      fraction(x, 1, 1, 7);
      fraction(x, 5, 1, 7);
      x.dam(1, 51);
      fraction(x, 1, 1, 7);
      // South is lost by a cut of the east, and by one of the spring.
      x.dam(5, 50);
      fraction(x, 5, 5, 7);
    }
  }

  private static void oddsBounds() {
    for (int c : new int[] {-1, 9, 25, LOW, TOP}) run(fields(), "odds " + c + " 0 = BAD", "odds " + c + " 1 = BAD", "odds " + c + " 2 = BAD");
    for (int what : new int[] {-1, 2, LOW, TOP}) run(fields(), "odds 0 " + what + " = BAD", "odds 4 " + what + " = BAD");
    run(of("plain 5 5;"), "odds 24 0 = 1", "odds 24 1 = 1", "odds 25 0 = BAD");
  }

  // ---- 28, 29: "SEEN: a CELL, whether it is in THE BED: how many are. BAD; FULL." "SEEN are the first n alone .. BAD."

  private static void seeing() {
    run(fields(), "see -1 true = BAD", "see 9 true = BAD", "see 9 false = BAD", "see LOW false = BAD", "see TOP true = BAD", "count 2 = 0", "see 8 false = 1",
        "see 0 false = 2", "see 0 false = 3", "see 4 true = 4", "see 4 true = 5", "see 4 true = 6", "see 3 false = 7", "count 2 = 7", "fits 0 = 8",
        "see 7 true = 8", "count 2 = 8", "fits 0 = 1", "see 0 true = FULL", "see 4 false = FULL", "see 9 true = BAD", "see -1 false = BAD", "count 2 = 8",
        "fits 0 = 1", "forget 7 = 8", "fits 0 = 8", "see 0 true = 8", "fits 0 = 0", "see 0 true = FULL");
    run(of("plain 5 5;"), "see 24 true = 1", "see 25 true = BAD", "fits 0 = 1", "see 24 false = 2", "fits 0 = 0");
    run(of("plain 2 2;"), "see 3 true = 1", "see 4 true = BAD");
    // Each cell of the largest plain, seen in the bed and out of it.
    for (int c = 0; c < 25; c++) {
      for (int in = 0; in < 25; in++) {
        RiverDiggers x = of("plain 5 5;");
        for (int d = 0; d < 25; d++) x.dam(d, d == in ? 0 : 9);
        run(x, "move " + in, "see " + c + " true", "fits 0 = " + (c == in ? 1 : 0), "forget 0", "see " + c + " false", "fits 0 = " + (c == in ? 0 : 1));
      }
    }
  }

  private static void forgetting() {
    run(fields(), "forget 0 = 0", "forget 1 = BAD", "forget -1 = BAD", "forget LOW = BAD", "forget TOP = BAD", "see 7 true", "see 5 false", "see 0 true",
        "fits 0 = 0", "forget 4 = BAD", "forget -1 = BAD", "forget 8 = BAD", "count 2 = 3", "forget 3 = 3", "fits 0 = 0", "forget 2 = 3", "count 2 = 2",
        "fits 0 = 1", "forget 3 = BAD", "forget 1 = 2", "fits 0 = 1", "forget 0 = 1", "count 2 = 0", "fits 0 = 8", "forget 1 = BAD");
  }

  // ---- 30: "YEARS that FIT: how many (what 0), the least (1), FARMS that CUT in all (2; bits), in none (3; bits)."

  private static void fitting() {
    run(fields(), "fits 0 = 8", "fits 1 = 0", "fits 2 = 0", "fits 3 = 0", "fits 4 = BAD", "fits -1 = BAD", "fits LOW = BAD", "fits TOP = BAD");
    run(fields(), "see 7 true", "fits 0 = 1", "fits 1 = 5408", "fits 2 = 4", "fits 3 = 3");
    run(fields(), "see 5 true", "fits 0 = 2", "fits 1 = 156", "fits 2 = 2", "fits 3 = 1");
    run(fields(), "see 1 true", "fits 0 = 5", "fits 1 = 0", "fits 2 = 0", "fits 3 = 0");
    run(fields(), "see 1 false", "fits 0 = 3", "fits 1 = 156", "fits 2 = 0", "fits 3 = 1");
    run(fields(), "see 4 true", "fits 0 = 8", "see 0 false", "fits 0 = 8", "see 5 false", "fits 0 = 6", "see 7 false", "fits 0 = 5", "see 1 true", "fits 0 = 5");
    run(fields(), "see 1 true", "see 5 true", "fits 0 = 0", "fits 1 = NONE", "fits 2 = NONE", "fits 3 = NONE", "fits 4 = BAD", "fits -1 = BAD");
    run(fields(), "see 4 false", "fits 0 = 0", "fits 1 = NONE", "fits 2 = NONE", "fits 3 = NONE");
    run(fields(), "see 1 true", "see 1 false", "fits 0 = 0", "forget 1", "fits 0 = 5");
  }

  /** A farm that may cut nothing cuts in none. */
  private static void fittingBits() {
    run(fields(), "dam 1 2", "dam 5 2", "dam 7 2", "fits 0 = 1", "fits 1 = 0", "fits 2 = 0", "fits 3 = 7");
    run(fields(), "dam 5 2", "fits 0 = 4", "fits 3 = 2", "fits 2 = 0");
    for (int f = 0; f < 3; f++) {
      RiverDiggers x = of("row 0 9 2 9;row 1 9 2 2;row 2 9 9 9;spring 4;farm 1;farm 1;farm 1;ground " + f + " 5;");
      run(x, "fits 0 = 2", "fits 2 = 0", "fits 3 = " + (7 - (1 << f)), "see 5 true", "fits 0 = 1", "fits 1 = " + 6 * PLACE[f], "fits 2 = " + (1 << f),
          "fits 3 = " + (7 - (1 << f)), "forget 0", "see 5 false", "fits 0 = 1", "fits 1 = 0", "fits 2 = 0", "fits 3 = 7");
    }
  }

  /** Farms that are not are neither in all nor in none. */
  private static void fittingNone() {
    run(new RiverDiggers(), "fits 0 = 1", "fits 1 = 0", "fits 2 = 0", "fits 3 = 0", "see 8 false", "fits 0 = 0", "fits 1 = NONE", "fits 2 = NONE", "fits 3 = NONE");
    run(of("farm 1;"), "fits 0 = 1", "fits 1 = 0", "fits 2 = 0", "fits 3 = 1");
    run(of("farm 1;farm 1;"), "fits 2 = 0", "fits 3 = 3");
    run(of("farm 1;farm 1;farm 1;"), "fits 2 = 0", "fits 3 = 7");
  }

  /** "whether it is in THE BED behind the next YEAR": not now, and behind its silt. */
  private static void seenBehindTheNextYear() {
    run(of("plain 4 2;row 0 5 4 3 3;row 1 9 9 9 9;silt;"), "count 0 = 4", "bed 3 = 3", "odds 3 0 = 0", "odds 3 1 = 1", "odds 2 0 = 1", "see 3 true",
        "fits 0 = 0", "silt false", "fits 0 = 1", "odds 3 0 = 1", "forget 0", "see 3 false", "fits 0 = 0", "silt true", "fits 0 = 1");
    // What was seen stays when a year goes; it is asked of the next one.
    run(fields(), "see 5 true", "fits 0 = 2", "year 156 = 2", "count 2 = 1", "fits 0 = 6", "fits 1 = 0");
  }
}
