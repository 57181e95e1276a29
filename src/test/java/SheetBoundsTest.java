/** Promises 31 to 37 at their bounds: images, sheets and what the machine finds of them, what is counted. */
public final class SheetBoundsTest extends Due {
  private static final int[] OUTSIDE = {-1, LOW, TOP};

  public static void main(String[] args) {
    keeping();
    goingBack();
    imagesApart();
    whatImagesHold();
    whatImagesLeave();
    sheets();
    sheetSizes();
    newRows();
    laying();
    layingIndex();
    lowestBits();
    readBounds();
    readIndex();
    readLanes();
    readNone();
    readFirstMet();
    readAsYears();
    readLastYears();
    torn();
    counting();
    countingYears();
    finish();
  }

  /** A cell as many yards high, next to a spring of two yards; year 3 cuts it. */
  private static RiverDiggers bank(int yards) { return of("plain 2 2;row 0 2 9;row 1 " + yards + " 9;farm 3;ground 0 2;"); }

  // ---- 31: "IMAGE k (0, 1) is ..: whether there was one (1, 0). BAD." 32: "All is as IMAGE k: YEARS. BAD; STATE: there is none."

  private static void keeping() {
    run(new RiverDiggers(), "keep 2 = BAD", "keep -1 = BAD", "keep LOW = BAD", "keep TOP = BAD", "count 3 = 0", "keep 0 = 0", "count 3 = 1", "keep 0 = 1",
        "count 3 = 1", "keep 2 = BAD", "keep 1 = 0", "count 3 = 2", "keep 1 = 1", "keep 0 = 1", "count 3 = 2");
  }

  private static void goingBack() {
    run(new RiverDiggers(), "back 2 = BAD", "back -1 = BAD", "back LOW = BAD", "back TOP = BAD", "back 0 = STATE", "back 1 = STATE", "year 0", "keep 1",
        "back 0 = STATE", "rule 6 = 1", "back 1 = 1", "back 2 = BAD", "back -1 = BAD", "year 0", "back 1 = 1", "back 1 = 1", "count 3 = 1");
    run(new RiverDiggers(), "keep 0", "year 0", "back 1 = STATE", "rule 6 = 1", "back 0 = 0", "rule 6 = 0");
  }

  private static void imagesApart() {
    run(bank(9), "keep 0 = 0", "year 3", "keep 1 = 0", "year 3", "back 0 = 0", "cell 2 0 = 27", "back 1 = 1", "cell 2 0 = 24", "dam 2 5", "back 1 = 1",
        "cell 2 0 = 24", "keep 0 = 1", "back 0 = 1", "cell 2 0 = 24", "dam 2 9", "keep 1 = 1", "back 0 = 1", "cell 2 0 = 24", "back 1 = 1", "cell 2 0 = 9");
  }

  /** "HEIGHTS, THE SPRING, LAW, SILT, WORTHS, YEARS, what was TOLD, SEEN" */
  private static void whatImagesHold() {
    for (int k = 0; k < 2; k++) {
      RiverDiggers x = of("row 0 9 2 9;row 1 9 2 2;row 2 9 2 9;spring 4;farm 1;farm 1;farm 1;ground 0 1;ground 1 5;ground 2 7;law 1;silt;");
      run(x, "year 0", "price 2 5", "tell 0", "tell 1", "see 7 true", "see 5 false", "keep " + k, "keep " + (1 - k));
      run(x, "year 2", "dam 0 1", "dam 8 99", "move 8", "law 2", "silt false", "price 0 9", "price 1 8", "price 2 7", "drop 0", "tell 3", "tell 4", "tell 5",
          "forget 0", "see 0 true", "see 1 true", "see 2 true", "keep " + (1 - k), "year 0", "back " + k + " = 1");
      int[] heights = {27, 6, 27, 27, 6, 6, 27, 6, 27};
      for (int c = 0; c < 9; c++) run(x, "cell " + c + " 0 = " + heights[c]);
      run(x, "rule 2 = 4", "rule 4 = 1", "rule 5 = 1", "rule 6 = 1", "farm 0 0 = 1", "farm 1 0 = 1", "farm 2 0 = 5", "bed 0 = 4", "bed 1 = 1", "bed 2 = NONE",
          "count 1 = 2", "judge 0 = 1", "judge 1 = 0", "drop 1", "judge 0 = NONE", "count 2 = 2", "fits 0 = 1", "fits 1 = 5408", "selfish 0 = 2");
      run(x, "back " + (1 - k) + " = 2", "cell 0 0 = 1", "cell 1 0 = 3", "cell 8 0 = 99", "rule 2 = 8", "rule 4 = 2", "rule 5 = 0", "farm 0 0 = 9",
          "farm 1 0 = 8", "farm 2 0 = 7", "count 1 = 3", "judge 0 = 0", "count 2 = 3", "fits 0 = 0", "bed 0 = 8");
      // What was told and seen behind the image does not come into it.
      run(x, "back " + k + " = 1", "drop 0", "tell 17575", "forget 0", "see 8 true", "back " + k + " = 1", "judge 0 = 1", "fits 0 = 1");
    }
    // The most that can be told and seen.
    run(bank(9), "tell 3", "tell 3", "tell 3", "tell 3", "tell 3", "tell 1", "see 0 true", "see 0 true", "see 0 true", "see 0 true", "see 0 true", "see 0 true",
        "see 0 true", "see 2 true", "keep 0", "drop 0", "forget 0", "back 0 = 0", "count 1 = 6", "judge 0 = 5", "count 2 = 8", "fits 0 = 0", "forget 7",
        "fits 0 = 2", "tell 0 = FULL", "drop 5", "judge 0 = NONE");
  }

  /** Neither the tape, nor the sheets, nor the latest faults, nor the images themselves are in an image. */
  private static void whatImagesLeave() {
    RiverDiggers x = bank(9);
    feed(x, "law 3;");
    run(x, "text = -14", "keep 0", "sheet 0 2 3", "sheet 1 0 1", "lay 0 0 3", "read 1 0 0 2 = 1", "torn = 2", "keep 1");
    feed(x, "silt;");
    run(x, "back 0 = 0", "count 3 = 2", "count 4 = 5", "count 5 = 3", "torn = 2", "fault = 3", "read 0 2 0 1 = 1", "cell 2 0 = 24", "torn = 0", "back 1 = 1",
        "torn = 0", "text = 1", "rule 5 = 1");
  }

  // ---- 33: "A SHEET is a new row of CELLS 0: 1. BAD: also n above 40; -10 - 4."

  private static void sheets() {
    for (int k = -1; k < 6; k++) {
      for (int lane = -1; lane < 5; lane++) {
        RiverDiggers x = new RiverDiggers();
        boolean is = k >= 0 && k < 4 && lane >= 0 && lane < 3;
        String row = "sheet " + k + " " + lane + " ";
        run(x, row + "41 = BAD", row + "TOP = BAD", row + "-1 = " + (is ? -14 : BAD), row + "LOW = " + (is ? -14 : BAD), "count 5 = NONE",
            row + "1 = " + (is ? 1 : BAD), "count 5 = " + (is && k == 0 ? 1 : NONE));
        for (int other = 0; other < 4; other++) due(33, "lay(" + other + ", 0, 0) behind " + row + "1", x.lay(other, 0, 0), is && other == k ? 1 : -11);
      }
    }
    for (int v : OUTSIDE) run(new RiverDiggers(), "sheet " + v + " 0 1 = BAD", "sheet 0 " + v + " 1 = BAD", "sheet " + v + " 0 -1 = BAD", "sheet 0 " + v + " -1 = BAD");
  }

  private static void sheetSizes() {
    for (int lane = 0; lane < 3; lane++) {
      RiverDiggers x = new RiverDiggers();
      for (int n = 0; n <= 40; n++) run(x, "sheet 0 " + lane + " " + n + " = 1", "count 5 = " + n, "lay 0 " + n + " 0 = -12", "lay 0 " + (n - 1) + " 0 = " + (n > 0 ? 1 : -12));
      for (int n = 41; n < 45; n++) run(x, "sheet 0 " + lane + " " + n + " = BAD", "count 5 = 40");
      run(x, "sheet 0 " + lane + " -1 = -14", "count 5 = 40", "lay 0 39 0 = 1", "lay 0 40 0 = -12");
    }
  }

  /** A new row has nothing of the old one; a refused one leaves the old one with what was laid. */
  private static void newRows() {
    for (int lane = 0; lane < 3; lane++) {
      RiverDiggers x = bank(9);
      String read = "read 2 " + lane + " 39 1 = ";
      run(x, "sheet 2 " + lane + " 40", "lay 2 39 3", "lay 2 0 9", "sheet 2 " + lane + " 41 = BAD", "sheet 2 3 40 = BAD", "sheet 2 " + lane + " -1 = -14", read + "1",
          "cell 2 0 = 24", "read 2 " + lane + " 0 1 = -20", "sheet 2 " + lane + " 40 = 1", read + "1", "cell 2 0 = 24", "read 2 " + lane + " 0 1 = 1",
          // Shorter, then longer again: what lay behind its end is gone too.
          "lay 2 39 3", "sheet 2 " + lane + " 0 = 1", "sheet 2 " + lane + " 40 = 1", read + "1", "cell 2 0 = 24",
          // Of another lane.
          "lay 2 39 3", "sheet 2 " + (lane + 1) % 3 + " 40 = 1", read + "0", "torn = 3", "read 2 " + (lane + 1) % 3 + " 39 1 = 1", "cell 2 0 = 24");
    }
    run(bank(9), "sheet 0 0 3", "sheet 1 0 3", "lay 0 1 3", "sheet 1 1 3", "sheet 3 2 3", "read 0 0 1 1 = 1", "cell 2 0 = 24");
  }

  // ---- 34: "CELL i of a SHEET becomes v (its lowest bits): 1. BAD: k; -10 less the FAULT: NULL, INDEX."

  private static void laying() {
    for (int k : new int[] {-1, 4, 5, LOW, TOP}) run(new RiverDiggers(), "lay " + k + " 0 0 = BAD", "lay " + k + " -1 0 = BAD", "lay " + k + " TOP 9 = BAD");
    for (int k = 0; k < 4; k++) {
      RiverDiggers x = new RiverDiggers();
      for (int i : new int[] {0, 1, 39, 40, -1, LOW, TOP}) run(x, "lay " + k + " " + i + " 0 = -11");
      run(x, "sheet " + k + " 0 1", "lay " + k + " 0 0 = 1", "lay " + (k + 1) % 4 + " 0 0 = -11");
    }
  }

  private static void layingIndex() {
    for (int lane = 0; lane < 3; lane++) {
      for (int size : new int[] {0, 1, 2, 39, 40}) {
        RiverDiggers x = new RiverDiggers();
        x.sheet(3, lane, size);
        for (int i = -2; i < 43; i++) due(34, "lay(3, " + i + ", 0) of " + size, x.lay(3, i, 0), i >= 0 && i < size ? 1 : -12);
        for (int v : OUTSIDE) due(34, "lay(3, " + v + ", 0) of " + size, x.lay(3, v, 0), -12);
        for (int i : new int[] {40, 80, 120, 160, 256, 1 << 16}) due(34, "lay(3, " + i + ", 0) of " + size, x.lay(3, i, 0), -12);
      }
    }
    // Each cell holds its own: a cut in one, quiet years in the others.
    for (int at = 0; at < 40; at++) {
      RiverDiggers x = bank(9);
      run(x, "sheet 1 0 40", "sheet 2 0 40", "sheet 3 0 40", "lay 2 " + at + " 3");
      for (int k = 1; k < 4; k++) run(x, "read " + k + " 0 0 20 = 20", "read " + k + " 0 20 20 = 20", "cell 2 0 = " + (k == 1 ? 27 : 24));
      run(x, "read 2 0 " + at + " 1 = 1", "cell 2 0 = 21");
    }
  }

  /** A BYTE has 8 bits, a SHORT 16, an INT all 32, and each may be below 0. */
  private static void lowestBits() {
    // A year of 127 or 129, 383, 17547 as numbers: which cells are cut by it.
    String t = "plain 5 5;row 0 1 1 1 1 1;row 4 1 1 1 1 1;farm 1;farm 1;farm 1;ground 0 22;ground 1 3 23;ground 2 24;";
    int[][] rows = {
      // lane, laid, as it is read (BAD: a number that no year has)
      {0, 23, 23}, {0, 127, 127}, {0, 128, BAD}, {0, 255, BAD}, {0, 256, 0}, {0, 256 + 127, 127}, {0, 65536 + 23, 23}, {0, -1, BAD}, {0, -128, BAD},
      {0, -129, 127}, {0, -256, 0}, {0, -256 + 23, 23}, {0, LOW, 0}, {0, TOP, BAD}, {0, LOW + 127, 127}, {0, 17547, BAD}, {0, 17547 - 139 + 23, 23},
      {1, 23, 23}, {1, 127, 127}, {1, 17547, 17547}, {1, 17575, STATE}, {1, 17576, BAD}, {1, 32767, BAD}, {1, 32768, BAD}, {1, 65535, BAD}, {1, 65536, 0},
      {1, 65536 + 17547, 17547}, {1, -65536 + 127, 127}, {1, -1, BAD}, {1, -32768, BAD}, {1, LOW, 0}, {1, TOP, BAD}, {1, 256, STATE}, {1, -32769, BAD},
      {2, 23, 23}, {2, 127, 127}, {2, 17547, 17547}, {2, 17575, STATE}, {2, 17576, BAD}, {2, 65536, BAD}, {2, -1, BAD}, {2, LOW, BAD}, {2, TOP, BAD},
      {2, 65536 + 17547, BAD}, {2, 256, STATE}, {2, 0, 0}
    };
    for (int[] row : rows) {
      RiverDiggers x = of(t);
      run(x, "sheet 3 " + row[0] + " 2", "lay 3 1 " + row[1] + " = 1");
      due(34, "read of " + row[1] + " laid on lane " + row[0], x.read(3, row[0], 1, 1), row[2] < 0 ? -20 : 1);
      int y = Math.max(0, row[2]);
      due(34, "cell(22, 0) by " + row[1] + " on lane " + row[0], x.cell(22, 0), y % 26 == 23 ? 0 : 3);
      due(34, "cell(3, 0) by " + row[1] + " on lane " + row[0], x.cell(3, 0), y == 127 ? 0 : 3);
      due(34, "cell(24, 0) by " + row[1] + " on lane " + row[0], x.cell(24, 0), y == 17547 ? 0 : 3);
      due(34, "rule(6) by " + row[1] + " on lane " + row[0], x.rule(6), row[2] < 0 ? 0 : 1);
    }
    // Years of 128, 200 and 255 can be, but no byte is so high: it is below 0 then.
    String high = "plain 5 5;row 0 1 1 1 1 1;row 1 1 1 1 1 1;row 3 1 1 1 1 1;row 4 1 1 1 1 1;farm 1;farm 1;ground 0 23 17 20;ground 1 3 6 8;";
    for (int v : new int[] {128, 200, 255}) {
      for (int lane = 0; lane < 3; lane++) {
        run(of(high), "sheet 1 " + lane + " 1", "lay 1 0 " + v + " = 1", "read 1 " + lane + " 0 1 = " + (lane == 0 ? -20 : 1), "count 6 = " + (lane == 0 ? 60 : 54));
      }
    }
    // What is laid later stands.
    run(of(t), "sheet 0 2 1", "lay 0 0 -1 = 1", "lay 0 0 23 = 1", "read 0 2 0 1 = 1", "cell 22 0 = 0");
  }

  // ---- 35: "n (0 to 20) YEARS are read .. BAD: k, lane, n"

  private static void readBounds() {
    RiverDiggers x = new RiverDiggers();
    run(x, "sheet 0 0 40", "sheet 1 1 40", "sheet 2 2 40", "sheet 3 0 40");
    for (int k : new int[] {-1, 4, 5, LOW, TOP}) run(x, "read " + k + " 0 0 1 = BAD", "read " + k + " 0 0 0 = BAD", "read " + k + " 0 -1 1 = BAD");
    for (int lane : new int[] {-1, 3, 4, LOW, TOP}) run(x, "read 0 " + lane + " 0 1 = BAD", "read 0 " + lane + " 0 0 = BAD", "read 0 " + lane + " 40 1 = BAD");
    for (int n : new int[] {-1, 21, 22, 40, LOW, TOP}) run(x, "read 0 0 0 " + n + " = BAD", "read 0 1 0 " + n + " = BAD", "read 0 0 40 " + n + " = BAD");
    run(x, "rule 6 = 0", "torn = 0", "read 0 0 0 20 = 20", "rule 6 = 20", "read 3 0 39 1 = 1", "read 1 1 0 1 = 1", "read 2 2 0 1 = 1", "read 2 2 0 0 = 0", "rule 6 = 23");
    for (int n = 0; n <= 20; n++) run(new RiverDiggers(), "sheet 3 1 40", "read 3 1 7 " + n + " = " + n, "torn = 0", "rule 6 = " + n);
  }

  /** "from CELL f on .. What the machine refuses: those ahead go" */
  private static void readIndex() {
    for (int size : new int[] {0, 1, 3, 40}) {
      for (int f : new int[] {-21, -20, -19, -2, -1, 0, 1, 2, 3, 19, 20, 21, 38, 39, 40, 41, LOW, TOP, TOP - 19, -40, 80, 256}) {
        for (int n : new int[] {0, 1, 2, 3, 20}) {
          RiverDiggers x = bank(9);
          x.sheet(2, 1, size);
          int went = f < 0 ? 0 : Math.max(0, Math.min(n, size - f));
          String call = "read(2, 1, " + f + ", " + n + ") of " + size;
          due(35, call, x.read(2, 1, f, n), went);
          due(36, "torn() of " + call, x.torn(), went < n ? 2 : 0);
          due(35, "rule(6) of " + call, x.rule(6), went);
        }
      }
    }
    // Those ahead go, with what they cut.
    run(bank(9), "sheet 1 0 3", "lay 1 0 3", "lay 1 1 3", "lay 1 2 3", "read 1 0 1 20 = 2", "torn = 2", "cell 2 0 = 21", "rule 6 = 2", "read 1 0 0 3 = 3", "torn = 0",
        "cell 2 0 = 12", "rule 6 = 5", "read 1 0 3 1 = 0", "torn = 2", "cell 2 0 = 12", "rule 6 = 5");
  }

  private static void readLanes() {
    for (int of = -1; of < 3; of++) {
      for (int lane = 0; lane < 3; lane++) {
        for (int f : new int[] {0, 1, 2, 39, 40, -1, LOW, TOP}) {
          for (int size : new int[] {0, 2, 40}) {
            RiverDiggers x = bank(9);
            if (of >= 0) run(x, "sheet 2 " + of + " " + size, "lay 2 0 3");
            int fault = of < 0 ? 1 : of != lane ? 3 : f < 0 || f >= size ? 2 : 0;
            String call = "read(2, " + lane + ", " + f + ", 1) of " + size + " cells of lane " + of;
            due(35, call, x.read(2, lane, f, 1), fault == 0 ? 1 : 0);
            due(36, "torn() of " + call, x.torn(), fault);
            due(35, "cell(2, 0) of " + call, x.cell(2, 0), fault == 0 && f == 0 ? 24 : 27);
            due(35, "rule(6) of " + call, x.rule(6), fault == 0 ? 1 : 0);
          }
        }
      }
    }
  }

  /** A read of no years reads no cell: the machine has nothing to refuse. */
  private static void readNone() {
    for (int of = -1; of < 3; of++) {
      for (int lane = 0; lane < 3; lane++) {
        for (int f : new int[] {0, 2, 40, -1, LOW, TOP}) {
          RiverDiggers x = new RiverDiggers();
          if (of >= 0) x.sheet(1, of, 2);
          run(x, "read 0 0 0 1 = 0", "torn = 1", "read 1 " + lane + " " + f + " 0 = 0", "torn = 0", "rule 6 = 0");
        }
      }
    }
  }

  /** "-20 less i: YEAR i is refused by year() (in whichever way): then none goes; the first met" */
  private static void readFirstMet() {
    for (int at = 0; at < 20; at++) {
      for (int no : new int[] {-1, 1, 17576}) {
        RiverDiggers x = bank(9);
        run(x, "sheet 0 2 40", "read 3 0 0 1 = 0", "lay 0 " + at + " " + no);
        for (int i = 0; i < at && i < 3; i++) x.lay(0, i, 3);
        run(x, "read 0 2 0 20 = " + (-20 - at), "torn = 1", "rule 6 = 0", "cell 2 0 = 27", "read 0 2 0 " + at + " = " + at, "torn = 0", "rule 6 = " + at,
            "cell 2 0 = " + (27 - 3 * Math.min(3, at)), "read 0 2 0 " + (at + 1) + " = " + (-20 - at), "rule 6 = " + at);
      }
    }
    // The row's end is met ahead of what lies before the place where it began; a refused year ahead of the row's end.
    run(bank(9), "sheet 0 0 3", "lay 0 0 1", "lay 0 1 3", "read 0 0 1 9 = 2", "torn = 2", "rule 6 = 2", "lay 0 2 1", "read 0 0 1 9 = -21", "torn = 2", "rule 6 = 2",
        "cell 2 0 = 24", "read 0 0 0 9 = -20", "read 0 1 0 9 = 0", "torn = 3");
  }

  /** "one behind another as by year()": each by the heights that those ahead have left. */
  private static void readAsYears() {
    run(bank(2), "sheet 0 1 5", "lay 0 0 3", "lay 0 1 3", "lay 0 2 3", "read 0 1 0 3 = -22", "cell 2 0 = 6", "read 0 1 0 2 = 2", "cell 2 0 = 0", "read 0 1 0 1 = -20");
    // What can be is asked anew behind them.
    run(bank(2), "sheet 0 1 5", "lay 0 0 3", "read 0 1 0 1 = 1", "fits 0 = 2", "count 7 = 2", "read 0 1 0 1 = 1", "fits 0 = 1", "count 7 = 1", "breaks 3 = STATE");
    run(bank(3), "odds 2 1 = 2", "sheet 0 1 5", "lay 0 0 3", "read 0 1 0 1 = 1", "odds 2 0 = 1", "odds 2 1 = 1", "rests 0 = 2", "selfish 10 = 3");
    // Silt goes with each of them; by law 2 the second bank may be cut when the first has been.
    RiverDiggers x = of("plain 4 2;row 0 3 2 1 0;row 1 9 9 9 9;silt;");
    run(x, "sheet 0 0 3", "read 0 0 0 2 = 2", "cell 1 0 = 4", "cell 2 0 = 1", "cell 3 0 = 4", "count 0 = 3");
    run(of("plain 4 2;row 0 2 2 3 9;row 1 9 9 9 9;farm 1;farm 1;ground 0 2;ground 1 3;law 2;"), "sheet 0 0 2", "lay 0 0 104", "lay 0 1 3", "read 0 0 0 2 = -20",
        "lay 0 0 3", "lay 0 1 104", "read 0 0 0 2 = 2", "cell 2 0 = 6", "cell 3 0 = 24", "bed 2 = 2", "farm 0 3 = 0", "farm 1 3 = 8");
  }

  private static void readLastYears() {
    RiverDiggers x = bank(9);
    x.sheet(0, 0, 40);
    for (int i = 0; i < 49; i++) x.read(0, 0, 20, 20);
    run(x, "rule 6 = 980", "lay 0 0 3", "read 0 0 0 20 = -39", "rule 6 = 980", "cell 2 0 = 27", "read 0 0 0 19 = 19", "rule 6 = 999", "cell 2 0 = 24", "torn = 0",
        "read 0 0 0 1 = -20", "read 0 0 40 1 = 0", "torn = 2", "read 0 0 39 2 = -20", "torn = 2", "read 0 0 0 0 = 0", "torn = 0", "rule 6 = 999", "cell 2 0 = 24");
  }

  // ---- 36: "The FAULT of the latest read() that came to an end; 0."

  private static void torn() {
    RiverDiggers x = bank(9);
    run(x, "torn = 0", "sheet 0 0 2", "lay 0 1 1", "sheet 1 1 2", "read 2 0 0 1 = 0", "torn = 1", "read 0 0 2 1 = 0", "torn = 2", "read 0 1 0 1 = 0", "torn = 3",
        // A read that is refused did not come to an end.
        "read 0 0 0 2 = -21", "torn = 3", "read 0 0 0 21 = BAD", "torn = 3", "read 4 0 0 1 = BAD", "torn = 3", "read 0 3 0 1 = BAD", "torn = 3",
        // Neither do other calls of sheets change it.
        "lay 2 0 0 = -11", "lay 0 2 0 = -12", "sheet 0 0 -1 = -14", "sheet 2 0 3 = 1", "torn = 3", "year 0", "keep 0", "back 0", "torn = 3",
        "read 0 0 0 1 = 1", "torn = 0", "read 1 1 1 2 = 1", "torn = 2", "read 1 1 1 0 = 0", "torn = 0");
  }

  // ---- 37: "How many: 0 CELLS of THE BED, 1 TOLD, 2 SEEN, 3 IMAGES, 4 bytes on THE TAPE, 5 CELLS of SHEET 0 (NONE: nothing), ..."

  private static void counting() {
    for (int what : new int[] {-1, 8, 9, LOW, TOP}) due(37, "count(" + what + ")", new RiverDiggers().count(what), BAD);
    run(new RiverDiggers(), "sheet 1 0 5", "sheet 2 0 5", "sheet 3 0 5", "count 5 = NONE", "sheet 0 0 0", "count 5 = 0", "sheet 0 2 40", "count 5 = 40", "sheet 0 2 41",
        "count 5 = 40", "tell 0", "count 1 = 1", "count 2 = 0", "see 0 true", "see 0 true", "count 1 = 1", "count 2 = 2", "keep 1", "count 3 = 1", "keep 0", "count 3 = 2",
        "count 4 = 0", "feed 0", "count 4 = 8", "end 3", "count 4 = 3", "text", "count 4 = 0", "count 3 = 2", "count 1 = 1");
    RiverDiggers x = of("plain 5 5;");
    run(x, "count 0 = 25", "count 6 = 0");
    for (int c = 0; c < 25; c++) run(x, "dam " + c + " 99", "count 6 = " + 99 * (c + 1));
    run(x, "dam 0 98", "count 0 = 1", "count 6 = 2474");
  }

  private static void countingYears() {
    run(new RiverDiggers(), "count 7 = 1");
    run(of("farm 1;farm 1;farm 1;"), "count 7 = 1");
    RiverDiggers x = of("plain 5 5;farm 1;farm 1;farm 1;ground 0 0 1 2 3 4 5 6 7;ground 1 8 9 10 11 12 13 14 15;ground 2 16 17 18 19 20 21 22 23;");
    int[] may = new int[3];
    run(x, "count 7 = 1", "dam 24 99", "count 7 = 1");
    for (int c = 23; c >= 0; c--) {
      x.dam(c, 2);
      due(37, "count(7)", x.count(7), (1 + may[0]) * (1 + may[1]) * (1 + may[2]));
      x.dam(c, 3);
      may[c / 8]++;
      due(37, "count(7)", x.count(7), (1 + may[0]) * (1 + may[1]) * (1 + may[2]));
      due(30, "fits(0)", x.fits(0), (1 + may[0]) * (1 + may[1]) * (1 + may[2]));
    }
    // Of the cells of 3 parts the first farm may cut the two that are next to the spring, by either law.
    run(x, "count 7 = 729", "dam 0 0", "count 0 = 1", "law 1", "count 7 = 3", "law 2", "count 7 = 3", "law 0", "count 7 = 648");
  }
}
