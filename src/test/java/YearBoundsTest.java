/** Promises 15 to 26 at their bounds: years, silt, what is told, where the bed is brought, what each does, quiet years. */
public final class YearBoundsTest extends Due {
  private static final String ONES = "plain 5 5;row 0 1 1 1 1 1;row 1 1 1 1 1 1;row 2 1 1 1 1 1;row 3 1 1 1 1 1;row 4 1 1 1 1 1;";
  private static final int[] PLACE = {1, 26, 676};
  /** A long way through a plain of 5 by 5; all other cells are walls. */
  private static final int[] WAY = {0, 1, 2, 3, 4, 9, 14, 13, 12, 11, 10, 15, 20, 21, 22, 23, 24};

  public static void main(String[] args) {
    numbers();
    everyCut();
    farmsThatAreNot();
    lowBanks();
    byHeightsAhead();
    together();
    siltByLength();
    siltBehindCuts();
    thousandthYear();
    would();
    telling();
    dropping();
    judgingEach();
    judgingFarms();
    judgingRuns();
    aloneYears();
    aloneFirst();
    aloneBounds();
    fewestCuts();
    leastYear();
    threeFields();
    firstOfSeveral();
    nobody();
    stands();
    again();
    finish();
  }

  /** A spring in the middle; farms north, east and south of it, all as high: the lowest gets it, of several the first. */
  static RiverDiggers fields(String more) {
    RiverDiggers x = of("row 0 9 2 9;row 1 9 2 2;row 2 9 2 9;spring 4;farm 1;farm 1;farm 1;ground 0 1;ground 1 5;ground 2 7;" + more);
    due(37, "count(0)", x.count(0), 2);
    return x;
  }

  private static RiverDiggers bank(int f, int yards) {
    return of("plain 2 2;row 0 2 9;row 1 " + yards + " 9;farm 3;farm 3;farm 3;ground " + f + " 2;");
  }

  private static RiverDiggers corridor(int... heights) {
    RiverDiggers x = of("plain 5 5;silt;");
    for (int c = 0; c < 25; c++) x.dam(c, 99);
    for (int i = 0; i < heights.length; i++) x.dam(WAY[i], heights[i]);
    return x;
  }

  // ---- 15: "BAD: below 0, above 17575; STATE: it can not be; FULL: it would be the 1000th."

  private static void numbers() {
    run(of(ONES + "farm 1;farm 1;farm 1;ground 0 22;ground 1 23;ground 2 24;"), "year -1 = BAD", "year LOW = BAD", "year 17576 = BAD",
        "year TOP = BAD", "year 17575 = STATE", "year 17548 = STATE", "year 1 = STATE", "rule 6 = 0", "count 6 = 75", "year 17547 = 11",
        "rule 6 = 1", "cell 22 0 = 0", "cell 23 0 = 0", "cell 24 0 = 0", "cell 21 0 = 3", "count 6 = 66", "year 17547 = STATE", "rule 6 = 1",
        "year 0 = 11", "rule 6 = 2", "count 6 = 66");
    run(new RiverDiggers(), "year 0 = 9", "rule 6 = 1", "year 1 = STATE", "year 25 = STATE", "year 17575 = STATE", "year 17576 = BAD", "rule 6 = 1");
  }

  /** Each farm may cut its own ground and no other's; nobody may cut what is nobody's or is not there. */
  private static void everyCut() {
    for (int f = 0; f < 3; f++) {
      RiverDiggers x = of(ONES + "farm 1;farm 1;farm 1;ground 0 0 12;ground 1 1 24;ground 2 2 23;");
      x.keep(0);
      for (int c = 0; c < 25; c++) {
        int owner = c == 0 || c == 12 ? 0 : c == 1 || c == 24 ? 1 : c == 2 || c == 23 ? 2 : NONE;
        int y = (c + 1) * PLACE[f];
        boolean can = owner == f;
        due(15, "year(" + y + ") can be", x.year(y) == STATE ? 0 : 1, can ? 1 : 0);
        due(15, "rule(6) behind year(" + y + ")", x.rule(6), can ? 1 : 0);
        due(15, "cell(" + c + ", 0) behind year(" + y + ")", x.cell(c, 0), can ? 0 : 3);
        due(15, "count(6) behind year(" + y + ")", x.count(6), can ? 72 : 75);
        x.back(0);
        due(16, "would(" + y + ", 0) can be", x.would(y, 0) == STATE ? 0 : 1, can ? 1 : 0);
        due(24, "breaks(" + y + ") can be", x.breaks(y) == STATE ? 0 : 1, can ? 1 : 0);
      }
    }
    RiverDiggers small = of("plain 2 2;row 0 1 1;row 1 1 1;farm 1;ground 0 0 1 2 3;");
    for (int c = 0; c < 25; c++) {
      due(16, "would(" + (c + 1) + ", 0) of 4 cells", small.would(c + 1, 0) == STATE ? 0 : 1, c < 4 ? 1 : 0);
      due(15, "year(" + (c + 1) + ") of 4 cells", c < 4 ? STATE : small.year(c + 1), STATE);
    }
  }

  /** "(others: 0)" */
  private static void farmsThatAreNot() {
    for (int farms = 0; farms <= 3; farms++) {
      for (int f = 0; f < 3; f++) {
        String ground = f < farms ? "ground " + f + " 24;" : "";
        RiverDiggers x = of(ONES + "farm 1;farm 1;farm 1;".substring(0, 7 * farms) + ground);
        due(15, "year(" + 25 * PLACE[f] + ") of " + farms + " farms", x.year(25 * PLACE[f]), f < farms ? 9 : STATE);
        due(15, "year(" + PLACE[f] + ") of " + farms + " farms", x.year(PLACE[f]), STATE);
      }
    }
  }

  /** "of 3 PARTS or more" */
  private static void lowBanks() {
    for (int v = 0; v < 100; v++) {
      RiverDiggers x = bank(1, 9);
      x.dam(2, v);
      due(15, "year(78) of " + v, x.year(78) == STATE ? 0 : 1, v < 3 ? 0 : 1);
      due(15, "cell(2, 0) of " + v, x.cell(2, 0), v < 3 ? v : v - 3);
      due(15, "rule(6) of " + v, x.rule(6), v < 3 ? 0 : 1);
    }
  }

  /** "if each FARM MAY CUT so by HEIGHTS ahead of it" */
  private static void byHeightsAhead() {
    // The second bank is next to the bed only when the first has been cut.
    run(of("plain 4 2;row 0 2 2 3 9;row 1 9 9 9 9;farm 1;farm 1;ground 0 2;ground 1 3;law 2;"), "count 0 = 2", "year 107 = STATE",
        "year 104 = STATE", "cell 2 0 = 9", "year 3 = 3", "year 104 = 3", "cell 3 0 = 24");
    // The second bank is next to the bed only while the first has not been cut: both may be cut in one year.
    String t = "plain 3 2;row 0 1 2 1;row 1 3 3 3;spring 1;farm 1;farm 1;ground 0 0;ground 1 5;law 1;";
    run(of(t), "bed 1 = 2", "year 157 = 2", "cell 0 0 = 0", "cell 5 0 = 6", "bed 1 = 0", "year 156 = STATE");
    run(of(t), "year 1 = 2", "year 156 = STATE", "cell 5 0 = 9");
  }

  /** "All CUTS together: 3 PARTS less each." */
  private static void together() {
    run(of("plain 2 2;row 0 9 9;row 1 9 9;farm 1;farm 1;farm 1;ground 0 0;ground 1 1;ground 2 3;"), "year 2757 = 3", "cell 0 0 = 24",
        "cell 1 0 = 24", "cell 2 0 = 27", "cell 3 0 = 24", "year 2705 = 1", "cell 0 0 = 21", "cell 1 0 = 24", "cell 3 0 = 21");
  }

  private static void silted(int[] heights, int[] behind, int length) {
    RiverDiggers x = corridor(heights);
    int all = x.count(6);
    due(15, "year(0) of " + java.util.Arrays.toString(heights), x.year(0), length);
    for (int i = 0; i < heights.length; i++) {
      due(15, "HEIGHT " + i + " of " + java.util.Arrays.toString(heights), x.cell(WAY[i], 0), behind[i]);
    }
    due(37, "count(6) of " + java.util.Arrays.toString(heights), x.count(6), all);
    RiverDiggers dry = corridor(heights);
    dry.silt(false);
    dry.year(0);
    for (int i = 0; i < heights.length; i++) due(15, "HEIGHT " + i + " without silt", dry.cell(WAY[i], 0), heights[i]);
  }

  /** "if THE BED has 4 CELLS or more: of its CELLS 1, 2, 3 each that has PARTS loses 1, its last one gets as many" */
  private static void siltByLength() {
    silted(new int[] {9}, new int[] {9}, 1);
    silted(new int[] {9, 8}, new int[] {9, 8}, 2);
    silted(new int[] {9, 8, 7}, new int[] {9, 8, 7}, 3);
    silted(new int[] {9, 8, 7, 6}, new int[] {9, 7, 6, 8}, 3);
    silted(new int[] {9, 8, 7, 4}, new int[] {9, 7, 6, 6}, 4);
    silted(new int[] {9, 8, 7, 6, 5}, new int[] {9, 7, 6, 5, 8}, 4);
    silted(new int[] {9, 8, 7, 6, 2}, new int[] {9, 7, 6, 5, 5}, 5);
    silted(new int[] {9, 8, 7, 6, 5, 1}, new int[] {9, 7, 6, 5, 5, 4}, 6);
    silted(new int[] {9, 8, 7, 6, 5, 3}, new int[] {9, 7, 6, 5, 5, 6}, 5);
    silted(new int[] {9, 9, 9, 9, 9}, new int[] {9, 8, 8, 8, 12}, 4);
    // Cells of no parts lose none, and the last one gets only what was lost.
    silted(new int[] {9, 0, 0, 0}, new int[] {9, 0, 0, 0}, 4);
    silted(new int[] {9, 1, 0, 0}, new int[] {9, 0, 0, 1}, 3);
    silted(new int[] {9, 1, 1, 0}, new int[] {9, 0, 0, 2}, 3);
    silted(new int[] {9, 1, 1, 1}, new int[] {9, 0, 0, 3}, 3);
    silted(new int[] {9, 0, 0, 0, 0}, new int[] {9, 0, 0, 0, 0}, 5);
    silted(new int[] {9, 1, 0, 0, 0}, new int[] {9, 0, 0, 0, 1}, 4);
    silted(new int[] {9, 1, 1, 0, 0}, new int[] {9, 0, 0, 0, 2}, 4);
    silted(new int[] {9, 1, 1, 1, 0}, new int[] {9, 0, 0, 0, 3}, 4);
    silted(new int[] {9, 1, 1, 1, 1}, new int[] {9, 0, 0, 0, 4}, 4);
    silted(new int[] {0, 0, 0, 0, 0, 0}, new int[] {0, 0, 0, 0, 0, 0}, 6);
    // The bed ends ahead of a higher cell: what lies behind it is not its last one.
    silted(new int[] {9, 8, 7, 8, 1}, new int[] {9, 8, 7, 8, 1}, 3);
    silted(new int[] {9, 8, 7, 6, 7, 1}, new int[] {9, 7, 6, 8, 7, 1}, 3);
  }

  /** "Then, with SILT, if THE BED has 4 CELLS": the bed as it is behind the cuts. */
  private static void siltBehindCuts() {
    String t = "plain 4 2;row 0 5 4 3 3;row 1 9 9 9 9;farm 1;farm 1;ground 0 3;ground 1 1;silt;";
    run(of(t), "dam 3 10", "count 0 = 3", "year 4 = 3", "cell 1 0 = 11", "cell 2 0 = 8", "cell 3 0 = 9");
    run(of(t), "dam 3 10", "year 0 = 3", "cell 1 0 = 12", "cell 2 0 = 9", "cell 3 0 = 10");
    run(of(t), "dam 1 11", "count 0 = 4", "year 52 = 2", "cell 1 0 = 8", "cell 2 0 = 9", "cell 3 0 = 9");
    run(of(t), "count 0 = 4", "year 52 = 3", "cell 1 0 = 8", "cell 2 0 = 8", "cell 3 0 = 11");
  }

  private static void thousandthYear() {
    RiverDiggers x = bank(0, 9);
    x.sheet(0, 0, 20);
    for (int i = 0; i < 49; i++) due(35, "read of 20 quiet years", x.read(0, 0, 0, 20), 20);
    due(35, "read of 18 quiet years", x.read(0, 0, 0, 18), 18);
    run(x, "rule 6 = 998", "keep 0", "year 3 = 1", "rule 6 = 999", "cell 2 0 = 24", "year 3 = FULL", "year 0 = FULL", "rule 6 = 999",
        "cell 2 0 = 24", "year 1 = STATE", "year -1 = BAD", "year 17576 = BAD", "rule 6 = 999", "back 0 = 998", "cell 2 0 = 27", "year 0 = 1",
        "rule 6 = 999", "year 0 = FULL", "text = 0", "rule 6 = 0", "year 0 = 9", "rule 6 = 1");
  }

  // ---- 16: "What a FARM would HAVE behind a YEAR. BAD; STATE: it can not be."

  private static void would() {
    for (int farms = 0; farms <= 3; farms++) {
      RiverDiggers x = of("farm 1;farm 1;farm 1;".substring(0, 7 * farms));
      for (int f = -1; f < 5; f++) due(16, "would(0, " + f + ") of " + farms, x.would(0, f), f >= 0 && f < farms ? 0 : BAD);
      run(x, "would 0 LOW = BAD", "would 0 TOP = BAD", "would 1 -1 = BAD", "would 1 3 = BAD", "would -1 0 = BAD", "would 17576 0 = BAD");
    }
    run(fields(""), "would -1 0 = BAD", "would LOW 0 = BAD", "would 17576 0 = BAD", "would TOP 0 = BAD", "would 17575 0 = STATE", "would 1 0 = STATE",
        "would 0 0 = 1", "would 0 1 = 0", "would 156 0 = 0", "would 156 1 = 1", "would 5408 2 = 1", "would 5408 0 = 0", "would 5566 0 = 1",
        "would 5566 1 = 0", "price 2 9", "would 5408 2 = 9", "rule 6 = 0", "cell 7 0 = 6", "bed 1 = 1");
    // What it has is reckoned behind the silt: the last cell is lifted out of the bed.
    run(of("plain 4 2;row 0 5 4 3 3;row 1 9 9 9 9;farm 4;ground 0 3;silt;"), "farm 0 2 = 4", "would 0 0 = 0", "silt false", "would 0 0 = 4");
  }

  // ---- 17, 18: "TOLD: a YEAR more: how many are. BAD; FULL." "TOLD YEARS are the first n alone: how many there were. BAD."

  private static void telling() {
    run(new RiverDiggers(), "tell -1 = BAD", "tell LOW = BAD", "tell 17576 = BAD", "tell TOP = BAD", "count 1 = 0", "tell 17575 = 1", "tell 0 = 2",
        "tell 0 = 3", "tell 1 = 4", "tell 2 = 5", "count 1 = 5", "tell 3 = 6", "count 1 = 6", "tell 0 = FULL", "tell 17575 = FULL", "tell -1 = BAD",
        "tell 17576 = BAD", "count 1 = 6", "drop 5 = 6", "tell 0 = 6", "tell 0 = FULL");
  }

  private static void dropping() {
    run(new RiverDiggers(), "drop 0 = 0", "drop 1 = BAD", "drop -1 = BAD", "drop LOW = BAD", "drop TOP = BAD", "tell 0", "tell 0", "tell 0",
        "drop 4 = BAD", "drop -1 = BAD", "drop 6 = BAD", "count 1 = 3", "drop 3 = 3", "count 1 = 3", "drop 2 = 3", "count 1 = 2", "drop 3 = BAD",
        "drop 0 = 2", "count 1 = 0", "drop 0 = 0");
    // The first ones stay, the later ones go.
    run(bank(0, 9), "tell 0", "tell 0", "tell 1", "tell 2", "judge 0 = 2", "drop 3 = 4", "judge 0 = 2", "drop 2 = 3", "judge 0 = NONE", "tell 0 = 3",
        "judge 0 = NONE", "tell 1 = 4", "judge 0 = 3");
  }

  // ---- 19: "The first TOLD YEAR that can not be (what 0), the first FARM whose CUT may not be in it (1; NONE also ..)"

  private static void judgingEach() {
    run(bank(0, 9), "judge 0 = NONE", "judge 1 = NONE", "judge -1 = BAD", "judge 2 = BAD", "judge LOW = BAD", "judge TOP = BAD");
    for (int at = 0; at < 6; at++) {
      RiverDiggers x = bank(0, 9);
      for (int i = 0; i < 6; i++) x.tell(i == at ? 1 : i < at ? 3 : 17575);
      run(x, "judge 0 = " + at, "judge 1 = 0", "judge 2 = BAD", "judge -1 = BAD", "rule 6 = 0", "cell 2 0 = 27", "count 1 = 6",
          "drop " + at, "judge 0 = NONE", "judge 1 = NONE");
    }
  }

  private static void judgingFarms() {
    String t = "plain 2 2;row 0 1 1;row 1 1 1;ground 0 0;farm 1;", two = "farm 1;ground 1 1;", three = two + "farm 1;ground 2 2;";
    int[][] rows = {
      // the year, then the farm of three, of two, of one
      {2, 0, 0, 0}, {26, 1, 1, NONE}, {676, 2, NONE, NONE}, {26 + 676, 1, 1, NONE}, {2 + 676, 0, 0, 0}, {1 + 676, 2, NONE, NONE},
      {1 + 26, 1, 1, NONE}, {1 + 52 + 676, 2, NONE, NONE}, {1 + 26 + 676 * 3, 1, 1, NONE}, {17575, 0, 0, 0}, {17550, 1, 1, NONE}, {16900, 2, NONE, NONE}
    };
    for (int[] row : rows) {
      String[] texts = {t + three, t + two, t};
      for (int i = 0; i < 3; i++) run(of(texts[i]), "tell 0", "tell " + row[0], "judge 0 = 1", "judge 1 = " + row[i + 1]);
    }
    run(of(t + three), "tell 2757", "judge 0 = 0", "judge 1 = 2", "drop 0", "tell " + (1 + 52 + 676 * 3), "judge 0 = NONE", "judge 1 = NONE",
        "tell 1", "judge 0 = 1", "judge 1 = 0", "count 6 = 12", "rule 6 = 0");
  }

  /** "one behind another from now on" */
  private static void judgingRuns() {
    run(bank(0, 2), "tell 3", "tell 3", "judge 0 = NONE", "tell 3", "judge 0 = 2", "year 3 = 2", "judge 0 = 1", "year 3 = 2", "judge 0 = 0", "judge 1 = 0",
        "dam 2 99", "judge 0 = NONE");
    // The silt of two quiet years brings 4 parts, of which a yard may be cut.
    String t = "plain 4 2;row 0 3 2 1 0;row 1 9 9 9 9;farm 1;ground 0 3;silt;";
    run(of(t), "tell 0", "tell 4", "judge 0 = 1", "drop 1", "tell 0", "tell 4", "judge 0 = NONE", "tell 4", "judge 0 = NONE", "tell 4",
        "judge 0 = 4", "judge 1 = 0");
  }

  // ---- 20: "The fewest YEARS (0 to 3) behind which a FARM, all others CUTTING none, has brought THE BED to a CELL"

  private static void aloneYears() {
    int[] fewest = {0, 0, 0, 1, 2, 3, NONE, NONE, NONE, NONE};
    for (int f = 0; f < 3; f++) {
      for (int yards = 0; yards < 10; yards++) {
        RiverDiggers x = bank(f, yards);
        due(20, "alone(" + f + ", 2, 0) of " + yards, x.alone(f, 2, 0), fewest[yards]);
        for (int i = 0; i < 3; i++) due(20, "alone(" + f + ", 2, 1" + i + ") of " + yards, x.alone(f, 2, 10 + i), i < fewest[yards] ? 2 : NONE);
        int other = (f + 1) % 3;
        due(20, "alone(" + other + ", 2, 0) of " + yards, x.alone(other, 2, 0), fewest[yards] == 0 ? 0 : NONE);
        due(20, "alone(" + other + ", 2, 10) of " + yards, x.alone(other, 2, 10), NONE);
        run(x, "cell 2 0 = " + 3 * yards, "rule 6 = 0");
      }
      // A part more than three yards above the spring is too much for three years.
      run(bank(f, 9), "dam 2 15", "alone " + f + " 2 0 = 3", "dam 2 16", "alone " + f + " 2 0 = NONE", "alone " + f + " 2 12 = NONE");
    }
    // A cell that is not next to the bed may be cut by LAW 0 alone.
    run(of("plain 3 3;row 0 1 2 9;row 1 9 2 9;row 2 9 9 9;farm 1;ground 0 1 4;"), "alone 0 4 0 = 2", "alone 0 4 10 = 1", "alone 0 4 11 = 4", "law 2",
        "alone 0 4 0 = 2", "alone 0 4 10 = 1", "alone 0 4 11 = 4", "dam 1 3", "alone 0 4 0 = 1", "dam 1 0", "alone 0 4 0 = 2");
    String far = "plain 3 3;row 0 9 9 9;row 1 9 9 9;row 2 2 2 1;spring 8;farm 1;ground 0 6 7;";
    run(of(far), "alone 0 6 0 = 2", "alone 0 6 10 = 6", "alone 0 6 11 = 7", "law 1", "alone 0 6 0 = 2", "alone 0 6 10 = 7", "alone 0 6 11 = 6",
        "law 2", "alone 0 6 10 = 7", "alone 0 6 11 = 6", "dam 7 3", "dam 6 3", "alone 0 6 0 = 0", "dam 6 7", "alone 0 6 0 = 2", "dam 7 2",
        "alone 0 6 0 = 2");
  }

  /** "the first such row by OPTIONS": no cut goes ahead of all cuts, and is told as 25. */
  private static void aloneFirst() {
    String t = "plain 3 3;row 0 2 3 9;row 1 3 1 9;row 2 9 9 9;farm 1;ground 0 3 1 8;";
    run(of(t), "alone 0 4 0 = 1", "alone 0 4 10 = 1", "dam 1 12", "alone 0 4 0 = 1", "alone 0 4 10 = 3", "dam 3 12", "alone 0 4 0 = 2",
        "alone 0 4 10 = 1", "alone 0 4 11 = 1", "alone 0 4 12 = NONE", "dam 1 15", "alone 0 4 0 = 2", "alone 0 4 10 = 3", "alone 0 4 11 = 3",
        "dam 3 15", "alone 0 4 0 = 3", "alone 0 4 10 = 1", "alone 0 4 11 = 1", "alone 0 4 12 = 1", "dam 1 18", "alone 0 4 12 = 3");
    // A quiet year lifts the last cell of the bed to the height of the one south of it.
    run(of("plain 4 2;row 0 3 2 1 0;row 1 9 9 9 0;farm 1;ground 0 4 7;silt;"), "dam 7 2", "alone 0 7 0 = 1", "alone 0 7 10 = 25", "alone 0 7 11 = NONE",
        "dam 7 5", "alone 0 7 0 = 1", "alone 0 7 10 = 7", "silt false", "alone 0 7 0 = NONE", "dam 7 3", "alone 0 7 10 = 7", "dam 7 2", "alone 0 7 10 = NONE");
    run(of("plain 5 5;row 3 9 9 9 9 9;row 4 9 9 9 2 3;spring 23;farm 1;ground 0 24;"), "alone 0 24 0 = 1", "alone 0 24 10 = 24");
  }

  private static void aloneBounds() {
    int[] outside = {-1, LOW, TOP, 3};
    RiverDiggers x = fields("");
    for (int v : outside) run(x, "alone " + v + " 0 0 = BAD", "alone " + v + " 0 10 = BAD");
    for (int v : new int[] {-1, LOW, TOP, 9}) run(x, "alone 0 " + v + " 0 = BAD", "alone 2 " + v + " 12 = BAD");
    for (int v : new int[] {-1, 1, 2, 9, 13, 14, 20, LOW, TOP}) run(x, "alone 0 1 " + v + " = BAD", "alone 0 0 " + v + " = BAD");
    run(x, "alone 0 8 0 = NONE", "alone 2 8 10 = NONE", "alone 2 7 0 = 1", "alone 2 7 10 = 7", "alone 2 7 11 = NONE", "alone 2 7 12 = NONE",
        "alone 0 1 0 = 0", "alone 0 1 10 = NONE", "alone 1 4 0 = 0");
    run(new RiverDiggers(), "alone 0 0 0 = BAD");
    run(of("farm 1;"), "alone 0 0 0 = 0", "alone 1 0 0 = BAD", "alone 0 9 0 = BAD");
  }

  // ---- 21: "The fewest CUTS in one YEAR behind which a CELL is in THE BED (what 0), the least such YEAR (1)."

  private static void fewestCuts() {
    String t = "plain 4 2;row 0 2 3 3 3;row 1 9 9 9 9;farm 1;farm 1;farm 1;ground 0 1;ground 1 2;ground 2 3;";
    run(of(t), "together 0 0 = 0", "together 0 1 = 0", "together 1 0 = 1", "together 1 1 = 2", "together 2 0 = 2", "together 2 1 = 80",
        "together 3 0 = 3", "together 3 1 = 2784", "together 7 0 = NONE", "together 7 1 = NONE", "together 8 0 = BAD", "together -1 0 = BAD",
        "together LOW 0 = BAD", "together TOP 1 = BAD", "together 0 2 = BAD", "together 0 -1 = BAD", "together 0 LOW = BAD", "together 0 TOP = BAD",
        "together 8 2 = BAD", "dam 3 12", "together 3 0 = NONE", "rule 6 = 0", "count 6 = 144");
  }

  private static void leastYear() {
    run(fields(""), "together 1 0 = 0", "together 1 1 = 0", "together 5 0 = 1", "together 5 1 = 156", "together 7 0 = 1", "together 7 1 = 5408",
        "together 4 0 = 0", "together 3 0 = NONE", "together 8 1 = NONE", "together 9 0 = BAD");
    // Either of two cells of one farm, then either of two farms, would do.
    String t = "plain 3 3;row 0 2 3 9;row 1 3 1 9;row 2 9 9 9;farm 1;farm 1;farm 1;";
    run(of(t + "ground 1 1 3;"), "together 4 0 = 1", "together 4 1 = 52");
    run(of(t + "ground 1 3;ground 2 1;"), "together 4 0 = 1", "together 4 1 = 104");
    run(of(t + "ground 2 3;ground 0 1;"), "together 4 0 = 1", "together 4 1 = 2");
    // Fewer cuts go ahead of a lower number.
    run(of("row 0 1 3 9;row 1 3 2 9;row 2 0 9 9;spring 4;farm 1;farm 1;farm 1;ground 0 3;ground 1 0;ground 2 1;"), "together 0 0 = 1", "together 0 1 = 1352",
        "dam 1 27", "together 0 0 = 2", "together 0 1 = 30");
  }

  // ---- 22, 23, 24

  /** Who is north gets it by a cut whatever the others do, and each of the others knows it. */
  private static void threeFields() {
    run(fields(""), "selfish 0 = 2", "selfish 10 = 1", "selfish 11 = 0", "selfish 12 = 0", "selfish 13 = BAD", "selfish 9 = BAD", "selfish 1 = BAD",
        "selfish -1 = BAD", "selfish LOW = BAD", "selfish TOP = BAD", "rests 0 = 4", "rests 1 = 2", "rests 2 = BAD", "rests -1 = BAD", "rests LOW = BAD",
        "rests TOP = BAD", "breaks 0 = 6", "breaks 156 = 1", "breaks 5408 = 3", "breaks 5564 = 1", "breaks 2 = 0", "breaks 158 = 0", "breaks 5410 = 0",
        "breaks 5566 = 0", "breaks 1 = STATE", "breaks 3 = STATE", "breaks 130 = STATE", "breaks 17575 = STATE", "breaks 17576 = BAD", "breaks -1 = BAD",
        "breaks LOW = BAD", "breaks TOP = BAD", "rule 6 = 0", "count 6 = 159");
    // When the north is a part too high, the east gets it by a cut; when the east is so too, the south has it without one.
    run(fields(""), "dam 1 7", "selfish 0 = 156", "selfish 11 = 1", "rests 0 = 4", "rests 1 = 156", "dam 5 7", "selfish 0 = 0", "selfish 12 = 1",
        "rests 0 = 4", "rests 1 = 5408", "price 2 9", "selfish 12 = 9", "selfish 10 = 0");
    run(of("farm 1;"), "selfish 10 = 0", "selfish 11 = BAD");
    run(of("farm 1;farm 1;"), "selfish 11 = 0", "selfish 12 = BAD");
  }

  /** "of several the first" */
  private static void firstOfSeveral() {
    String t = "row 0 9 2 9;row 1 2 2 2;row 2 9 2 9;spring 4;farm 1;farm 1;farm 1;";
    for (int f = 0; f < 3; f++) {
      // North is nobody's: each cut of the others brings it, the first is taken; north is its own: none is.
      run(of(t + "ground " + f + " 7 3 5;"), "selfish 0 = " + 4 * PLACE[f], "selfish 1" + f + " = 1", "rests 0 = 3", "rests 1 = " + 4 * PLACE[f]);
      run(of(t + "ground " + f + " 7 3 5 1;"), "selfish 0 = 0", "selfish 1" + f + " = 1", "rests 0 = 5", "rests 1 = 0", "breaks 0 = 0");
    }
  }

  private static void nobody() {
    run(new RiverDiggers(), "selfish 0 = 0", "selfish 10 = BAD", "rests 0 = 1", "rests 1 = 0", "breaks 0 = 0", "breaks 1 = STATE", "together 8 0 = 0",
        "together 8 1 = 0");
    run(of("farm 1;farm 1;farm 1;"), "selfish 0 = 0", "selfish 12 = 0", "rests 0 = 1", "rests 1 = 0", "breaks 0 = 0", "breaks 676 = STATE");
    // Two of whom one would always do something else: no year is at rest.
    run(of("plain 3 2;row 0 1 2 1;row 1 2 3 3;spring 4;farm 1;farm 1;ground 0 3 0;ground 1 1 2;"), "rests 0 = 0", "rests 1 = NONE", "rests 2 = BAD");
  }

  // ---- 25, 26: quiet years, beside a river that can only go along one way

  private static int length(int[] h) {
    int n = 1;
    while (n < h.length && h[n] <= h[n - 1]) n++;
    return n;
  }

  private static int[] quiet(int[] h) {
    int[] behind = h.clone();
    int length = length(h);
    if (length < 4) return behind;
    for (int i = 1; i < 4; i++) {
      if (h[i] > 0) {
        behind[i]--;
        behind[length - 1]++;
      }
    }
    return behind;
  }

  private static void standsOf(int... heights) {
    RiverDiggers x = corridor(heights);
    for (int i = 0; i < heights.length; i++) {
      int[] h = heights;
      int years = 0;
      for (boolean in = true; in && years < 20; ) {
        h = quiet(h);
        in = i < length(h);
        if (in) years++;
      }
      String what = "stands(" + WAY[i] + ") of " + java.util.Arrays.toString(heights);
      due(25, what, x.stands(WAY[i]), i < length(heights) ? years : STATE);
    }
    run(x, "rule 6 = 0", "cell " + WAY[1] + " 0 = " + heights[1]);
  }

  /** "Behind how many YEARS without CUTS (20 at most), one behind another from the first on, a CELL is in THE BED." */
  private static void stands() {
    run(new RiverDiggers(), "stands 0 = 20", "stands 8 = 20", "stands 9 = BAD", "stands -1 = BAD", "stands LOW = BAD", "stands TOP = BAD");
    run(fields(""), "stands 1 = 20", "stands 4 = 20", "stands 5 = STATE", "stands 0 = STATE", "stands 9 = BAD", "silt true", "stands 1 = 20");
    // Each year the last of four cells comes 3 parts nearer to the one ahead of it, and falls out when it is higher.
    int[][] rows = {{0, 0}, {2, 0}, {3, 1}, {5, 1}, {6, 2}, {56, 18}, {57, 19}, {59, 19}, {60, 20}, {62, 20}, {63, 20}, {90, 20}};
    for (int[] row : rows) {
      run(corridor(98, 97, 96, 96 - row[0]), "stands 3 = " + row[1], "stands 2 = 20", "stands 0 = 20", "stands 4 = STATE", "silt false", "stands 3 = 20");
      standsOf(98, 97, 96, 96 - row[0]);
    }
    // The last of six falls out, and is in it again a year later: from the first year on it stood for none.
    run(corridor(98, 97, 96, 95, 30, 30), "stands 9 = 0", "year 0 = 5", "stands 9 = STATE", "year 0 = 6", "stands 9 = 0");
    for (int low = 0; low < 40; low += 3) standsOf(98, 97, 96, 95, 40, 40, low, low, 0);
  }

  private static void againOf(int... heights) {
    int[] h = heights;
    int years = 0;
    while (years <= 60 && !java.util.Arrays.equals(h, quiet(h))) {
      h = quiet(h);
      years++;
    }
    RiverDiggers x = corridor(heights);
    String of = " of " + java.util.Arrays.toString(heights);
    due(26, "again(0)" + of, x.again(0), years < 60 ? years : NONE);
    due(26, "again(1)" + of, x.again(1), years < 60 ? 1 : NONE);
    reached[Math.min(years, 61)]++;
    run(x, "again 2 = BAD", "again -1 = BAD", "rule 6 = 0", "year 0", "again 0 = " + (years == 0 ? 0 : years < 61 ? years - 1 : NONE));
  }

  private static final int[] reached = new int[62];

  /** "until all HEIGHTS are as they were before .. (60 at most) .. NONE: they do not (behind 60 at most)" */
  private static void again() {
    run(new RiverDiggers(), "again 0 = 0", "again 1 = 1", "again 2 = BAD", "again -1 = BAD", "again LOW = BAD", "again TOP = BAD", "silt true", "again 0 = 0",
        "again 1 = 1");
    againOf(9, 8, 7);
    againOf(9, 0, 0, 0, 0);
    againOf(9, 1, 0, 0, 0);
    for (int d = 0; d < 96; d++) againOf(98, 97, 96, 96 - d);
    // Seven cells that silt fills for some sixty years.
    for (int v = 0; v < 30; v++) againOf(98, 98, 98, 98, v, v, v, v / 2, v / 2, v / 3, 0);
    for (int years = 0; years < 62; years++) {
      if (years < 3 || years > 57) due(26, "plains that come again behind " + years + " are met", reached[years] > 0 ? 1 : 0, 1);
    }
  }
}
