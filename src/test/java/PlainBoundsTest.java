/** Promises 6 to 14 at their bounds: what is asked of the plain, the way of the bed, what may be cut, what is changed. */
public final class PlainBoundsTest extends Due {
  private static final int[] OUTSIDE = {-1, LOW, TOP};

  public static void main(String[] args) {
    rules();
    cells();
    farms();
    has();
    mayCut();
    mayCutByLaw();
    noWrapAround();
    lowestAndFirst();
    bedEnds();
    bedsOfOneAndOfAll();
    dams();
    heightsAboveDams();
    moves();
    laws();
    silts();
    prices();
    finish();
  }

  private static String filled(int wide, int high, int yards) {
    StringBuilder t = new StringBuilder("plain " + wide + " " + high + ";");
    for (int row = 0; row < high; row++) {
      t.append("row ").append(row);
      for (int i = 0; i < wide; i++) t.append(' ').append(yards);
      t.append(';');
    }
    return t.toString();
  }

  // ---- 6

  private static void rules() {
    for (int what : OUTSIDE) due(6, "rule(" + what + ")", new RiverDiggers().rule(what), BAD);
    due(6, "rule(7)", new RiverDiggers().rule(7), BAD);
    run(of("plain 2 5;spring 9;farm 1;farm 2;law 2;silt;"), "year 0", "year 0",
        "rule 0 = 2", "rule 1 = 5", "rule 2 = 9", "rule 3 = 2", "rule 4 = 2", "rule 5 = 1", "rule 6 = 2", "rule 7 = BAD");
    run(of("farm 1;farm 1;farm 1;"), "rule 3 = 3");
  }

  // ---- 7: "Of a CELL: 0 HEIGHT, 1 whose GROUND it is (NONE). BAD."

  private static void cells() {
    for (int wide = 2; wide <= 5; wide++) {
      for (int high = 2; high <= 5; high++) {
        RiverDiggers x = of(filled(wide, high, 3) + "farm 1;farm 1;ground 1 0;");
        for (int c = -2; c < 28; c++) {
          boolean is = c >= 0 && c < wide * high;
          due(7, "cell(" + c + ", 0) of " + wide + " by " + high, x.cell(c, 0), is ? 9 : BAD);
          due(7, "cell(" + c + ", 1) of " + wide + " by " + high, x.cell(c, 1), c == 0 ? 1 : is ? NONE : BAD);
          due(7, "cell(" + c + ", 2)", x.cell(c, 2), BAD);
          due(7, "cell(" + c + ", -1)", x.cell(c, -1), BAD);
        }
        for (int v : OUTSIDE) run(x, "cell " + v + " 0 = BAD", "cell " + v + " 1 = BAD", "cell 0 " + v + " = BAD");
      }
    }
  }

  // ---- 8: "Of a FARM: 0 WORTH, 1 GROUND (bits), 2 what it HAS, 3 CELLS it MAY CUT (bits). BAD."

  private static void farms() {
    for (int farms = 0; farms <= 3; farms++) {
      RiverDiggers x = of("farm 7;farm 8;farm 9;".substring(0, 7 * farms));
      for (int f = -1; f < 5; f++) {
        boolean is = f >= 0 && f < farms;
        due(8, "farm(" + f + ", 0) of " + farms, x.farm(f, 0), is ? 7 + f : BAD);
        // A farm without ground has nothing, and may cut nothing.
        for (int what = 1; what < 4; what++) due(8, "farm(" + f + ", " + what + ") of " + farms, x.farm(f, what), is ? 0 : BAD);
        due(8, "farm(" + f + ", 4) of " + farms, x.farm(f, 4), BAD);
        for (int v : OUTSIDE) due(8, "farm(" + f + ", " + v + ") of " + farms, x.farm(f, v), BAD);
      }
      for (int v : OUTSIDE) due(8, "farm(" + v + ", 0) of " + farms, x.farm(v, 0), BAD);
    }
  }

  /** "its WORTH for each CELL of its GROUND in THE BED" */
  private static void has() {
    run(of("plain 5 5;farm 9;farm 1;farm 5;ground 0 17 18 19 20 21 22 23 24;ground 1 0;"), "count 0 = 25",
        "farm 0 2 = 72", "farm 1 2 = 1", "farm 2 2 = 0", "dam 0 0", "dam 1 1", "dam 5 1", "count 0 = 1", "farm 0 2 = 0", "farm 1 2 = 1",
        "move 24", "farm 0 2 = 54", "farm 1 2 = 0", "move 0", "dam 1 0", "dam 2 1", "dam 6 1", "count 0 = 2", "farm 0 2 = 0");
    // Ground out of the bed does not count.
    run(of("plain 3 2;row 0 3 2 1;row 1 9 9 9;farm 4;ground 0 0 2 5;"), "count 0 = 3", "farm 0 2 = 8", "dam 2 7", "farm 0 2 = 4");
  }

  /** "A FARM MAY CUT a CELL of its GROUND of 3 PARTS or more" */
  private static void mayCut() {
    RiverDiggers x = of("plain 5 5;farm 1;farm 1;farm 1;ground 0 0 24;ground 2 23;");
    run(x, "farm 0 3 = 0", "dam 24 1", "farm 0 3 = 0", "dam 24 2", "farm 0 3 = 0", "dam 24 3", "farm 0 3 = 16777216", "dam 24 4",
        "farm 0 3 = 16777216", "dam 24 99", "farm 0 3 = 16777216", "dam 0 3", "farm 0 3 = 16777217", "farm 1 3 = 0", "farm 2 3 = 0",
        "dam 23 3", "farm 2 3 = 8388608", "farm 0 3 = 16777217", "dam 22 99", "farm 0 3 = 16777217", "farm 1 3 = 0", "farm 2 3 = 8388608");
  }

  /** "LAW 1: such a one that is in THE BED or next to it; LAW 2: such a one that is next to it and not in it" */
  private static void mayCutByLaw() {
    // The bed is the middle alone; north, west, east and south are next to it, corners are not.
    RiverDiggers x = of(filled(3, 3, 2) + "spring 4;farm 1;ground 0 0 1 2 3 4 5 6 7;");
    run(x, "dam 4 3", "count 0 = 1", "farm 0 3 = 255", "law 1", "farm 0 3 = 186", "law 2", "farm 0 3 = 170", "law 0", "farm 0 3 = 255",
        "dam 4 2", "dam 1 2", "dam 0 2", "count 0 = 3", "farm 0 3 = 236", "law 1", "farm 0 3 = 172", "law 2", "farm 0 3 = 172");
    // A bed along the north: in it, next to it, far from it.
    RiverDiggers y = of("plain 5 3;row 0 5 4 3 2 1;row 1 9 9 9 9 9;row 2 9 9 9 9 9;farm 1;ground 0 0 4 5 9 10 14;");
    run(y, "farm 0 3 = " + (1 + 16 + 32 + 512 + 1024 + 16384), "law 1", "farm 0 3 = " + (1 + 16 + 32 + 512), "law 2", "farm 0 3 = " + (32 + 512),
        "dam 5 2", "count 0 = 2", "farm 0 3 = 1024", "law 1", "farm 0 3 = " + (1 + 1024));
    // A cell of the bed is next to another one of it: by LAW 2 it is still in it.
    run(of("plain 2 2;row 0 3 2;row 1 9 9;farm 1;ground 0 0 1 2 3;law 2;"), "count 0 = 2", "farm 0 3 = 12", "law 1", "farm 0 3 = 15");
  }

  // ---- 9 and THE BED: "those CELLS next to the latest one (north, east, south, west ..)"

  /** Two cells are next to each other if they are so in a row or a column, whatever their numbers. */
  private static void noWrapAround() {
    for (int wide = 2; wide <= 5; wide++) {
      for (int high = 2; high <= 5; high++) {
        for (int c = 0; c < wide * high; c++) {
          RiverDiggers x = of(filled(wide, high, 9) + "spring " + c + ";farm 1;");
          x.dam(c, 15);
          for (int d = 0; d < wide * high; d++) {
            if (d == c) continue;
            boolean next = Math.abs(c / wide - d / wide) + Math.abs(c % wide - d % wide) == 1;
            x.dam(d, 0);
            due(9, "bed(1) from " + c + " with " + d + " low, " + wide + " by " + high, x.bed(1), next ? d : NONE);
            x.dam(d, 27);
          }
        }
      }
    }
    for (int wide = 2; wide <= 5; wide++) for (int high = 2; high <= 5; high++) for (int c = 0; c < wide * high; c++) nextToBed(wide, high, c);
    // So it is with rows of other heights too.
    run(of("row 0 9 9 5;row 1 9 9 9;row 2 9 9 9;spring 2;farm 1;ground 0 0 1 3 4 5 6 7 8;law 2;"), "count 0 = 1", "farm 0 3 = " + (2 + 32));
    run(of("row 0 9 9 9;row 1 5 9 9;row 2 9 9 9;spring 3;farm 1;ground 0 0 1 2 4 5 6 7 8;law 2;"), "count 0 = 1", "farm 0 3 = " + (1 + 16 + 64));
  }

  /** So it is for what is next to the bed: of a bed of one cell, all others being ground as far as three farms can have it. */
  private static void nextToBed(int wide, int high, int c) {
    StringBuilder t = new StringBuilder("plain " + wide + " " + high + ";spring " + c + ";farm 1;farm 1;farm 1;");
    int listed = 0;
    int[] all = new int[3], next = new int[3];
    for (int d = 0; d < wide * high; d++) {
      if (d == c) continue;
      if (listed % 8 == 0) t.append(listed == 0 ? "" : ";").append("ground ").append(listed / 8);
      t.append(' ').append(d);
      all[listed / 8] |= 1 << d;
      if (Math.abs(c / wide - d / wide) + Math.abs(c % wide - d % wide) == 1) next[listed / 8] |= 1 << d;
      listed++;
    }
    RiverDiggers x = of(t + ";");
    for (int d = 0; d < wide * high; d++) x.dam(d, d == c ? 3 : 4);
    due(37, "count(0)", x.count(0), 1);
    for (int law = 0; law < 3; law++) {
      x.law(law);
      for (int f = 0; f < 3; f++) {
        due(8, "farm(" + f + ", 3) by law " + law + " of " + t, x.farm(f, 3), law == 0 ? all[f] : next[f]);
      }
    }
  }

  /** "ever the lowest of those CELLS .. (.. of several the first so) that are not .. higher than the latest one" */
  private static void lowestAndFirst() {
    int[] ways = {1, 5, 7, 3};
    for (int code = 0; code < 256; code++) {
      RiverDiggers x = of("spring 4;");
      for (int c = 0; c < 9; c++) x.dam(c, 99);
      x.dam(4, 6);
      int best = NONE, lowest = 7;
      for (int way = 0; way < 4; way++) {
        int height = 4 + (code >> 2 * way & 3);
        x.dam(ways[way], height);
        if (height < lowest) { lowest = height; best = ways[way]; }
      }
      due(9, "bed(1) of ways " + code, x.bed(1), best);
      due(9, "bed(0) of ways " + code, x.bed(0), 4);
    }
  }

  /** "it ends where there is none": as high is not higher, a part more is; and no cell comes twice. */
  private static void bedEnds() {
    RiverDiggers x = of("plain 4 2;row 0 3 3 3 3;row 1 9 9 9 9;");
    run(x, "count 0 = 4", "bed 3 = 3", "bed 4 = NONE", "dam 3 10", "count 0 = 3", "bed 2 = 2", "bed 3 = NONE", "dam 3 9", "count 0 = 4",
        "dam 3 8", "count 0 = 4", "dam 1 10", "count 0 = 1", "dam 1 9", "count 0 = 4", "dam 2 8", "count 0 = 4", "dam 2 7", "count 0 = 3");
    run(of("plain 2 2;"), "count 0 = 4", "bed 0 = 0", "bed 1 = 1", "bed 2 = 3", "bed 3 = 2", "bed 4 = NONE");
    // The lowest goes ahead of the first, even where it leads into a corner.
    run(of("plain 3 2;row 0 0 2 1;row 1 1 1 1;spring 1;"), "bed 1 = 0", "bed 2 = NONE");
  }

  private static void bedsOfOneAndOfAll() {
    RiverDiggers one = of(filled(5, 5, 1) + "spring 12;");
    one.dam(12, 0);
    run(one, "count 0 = 1", "bed 0 = 12", "bed 1 = NONE", "bed 24 = NONE", "bed 25 = NONE", "bed TOP = NONE", "bed -1 = BAD", "bed LOW = BAD");
    int[] way = {0, 1, 2, 3, 4, 9, 14, 19, 24, 23, 18, 13, 8, 7, 12, 17, 22, 21, 16, 11, 6, 5, 10, 15, 20};
    RiverDiggers all = of("plain 5 5;");
    for (int i = 0; i < 25; i++) due(9, "bed(" + i + ")", all.bed(i), way[i]);
    run(all, "bed 25 = NONE", "bed 26 = NONE", "bed TOP = NONE", "bed -1 = BAD", "bed LOW = BAD", "count 0 = 25");
  }

  // ---- 10: "HEIGHT of a CELL becomes v (0 to 99): what it was. BAD."

  private static void dams() {
    RiverDiggers x = of("plain 4 3;");
    run(x, "dam 11 99 = 0", "cell 11 0 = 99", "dam 11 98 = 99", "dam 11 0 = 98", "cell 11 0 = 0", "dam 11 100 = BAD", "dam 11 -1 = BAD",
        "dam 11 LOW = BAD", "dam 11 TOP = BAD", "cell 11 0 = 0", "dam 12 5 = BAD", "dam -1 5 = BAD", "dam LOW 5 = BAD", "dam TOP 5 = BAD",
        "dam 12 100 = BAD", "count 6 = 0", "dam 0 1 = 0", "count 6 = 1", "cell 1 0 = 0", "cell 0 0 = 1", "rule 6 = 0");
    for (int v = 0; v < 100; v++) due(10, "dam(5, " + v + ")", x.dam(5, v), Math.max(0, v - 1));
    for (int v = 100; v < 130; v++) due(10, "dam(5, " + v + ")", x.dam(5, v), BAD);
    run(x, "cell 5 0 = 99");
    run(of("plain 5 5;"), "dam 24 7 = 0", "cell 24 0 = 7", "dam 25 7 = BAD");
    run(of("plain 2 2;"), "dam 3 7 = 0", "cell 3 0 = 7", "dam 4 7 = BAD", "count 6 = 7");
  }

  /** A HEIGHT is "0 on": silt may bring it above what a dam can. */
  private static void heightsAboveDams() {
    run(of("plain 2 2;silt;"), "dam 0 99", "dam 1 99", "dam 2 99", "dam 3 99", "year 0 = 3", "cell 0 0 = 99", "cell 1 0 = 98", "cell 3 0 = 98",
        "cell 2 0 = 101", "count 6 = 396", "dam 2 101 = BAD", "dam 2 100 = BAD", "cell 2 0 = 101", "keep 0", "dam 2 99 = 101", "back 0 = 1",
        "cell 2 0 = 101", "move 2", "count 0 = 3", "dam 2 0 = 101");
  }

  // ---- 11: "THE SPRING becomes a CELL: which it was. BAD."

  private static void moves() {
    run(of("plain 4 3;spring 2;"), "move 11 = 2", "rule 2 = 11", "bed 0 = 11", "move 11 = 11", "move 0 = 11", "move 12 = BAD", "move -1 = BAD",
        "move LOW = BAD", "move TOP = BAD", "rule 2 = 0", "bed 0 = 0");
    run(of("plain 5 5;"), "move 24 = 0", "move 25 = BAD", "rule 2 = 24");
    run(of("plain 2 2;"), "move 3 = 0", "move 4 = BAD", "rule 2 = 3");
  }

  // ---- 12: "LAW becomes v: what it was. BAD."

  private static void laws() {
    run(new RiverDiggers(), "law 1 = 0", "rule 4 = 1", "law 2 = 1", "rule 4 = 2", "law 2 = 2", "law 3 = BAD", "law -1 = BAD", "law LOW = BAD",
        "law TOP = BAD", "rule 4 = 2", "law 0 = 2", "rule 4 = 0", "law 0 = 0");
  }

  // ---- 13: "SILT or not: whether there was."

  private static void silts() {
    run(new RiverDiggers(), "silt false = 0", "rule 5 = 0", "silt true = 0", "rule 5 = 1", "silt true = 1", "rule 5 = 1", "silt false = 1",
        "rule 5 = 0", "silt false = 0");
  }

  // ---- 14: "WORTH of a FARM becomes v: what it was. BAD."

  private static void prices() {
    for (int farms = 0; farms <= 3; farms++) {
      RiverDiggers x = of("farm 7;farm 8;farm 9;".substring(0, 7 * farms));
      for (int f = -1; f < 5; f++) {
        boolean is = f >= 0 && f < farms;
        due(14, "price(" + f + ", 1) of " + farms, x.price(f, 1), is ? 7 + f : BAD);
        due(14, "price(" + f + ", 9) of " + farms, x.price(f, 9), is ? 1 : BAD);
        due(14, "price(" + f + ", 0) of " + farms, x.price(f, 0), BAD);
        due(14, "price(" + f + ", 10) of " + farms, x.price(f, 10), BAD);
        due(14, "farm(" + f + ", 0) of " + farms, x.farm(f, 0), is ? 9 : BAD);
      }
      for (int v : OUTSIDE) due(14, "price(" + v + ", 5) of " + farms, x.price(v, 5), BAD);
    }
    run(of("farm 5;farm 6;ground 0 0 1;ground 1 2;"), "farm 0 2 = 10", "price 0 9 = 5", "farm 0 2 = 18", "farm 1 0 = 6", "farm 1 2 = 6",
        "price 0 LOW = BAD", "price 0 TOP = BAD", "price 0 -1 = BAD", "price 1 1 = 6", "farm 1 2 = 1", "farm 0 0 = 9");
  }
}
