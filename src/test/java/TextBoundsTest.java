/** Promises 1 to 5 at their bounds: the new object, the tape, its tokens, each fault of a text and its place. */
public final class TextBoundsTest extends Due {
  private static final String WIDEST = "plain 5 5;", ALL_FARMS = "farm 1;farm 1;farm 1;";

  public static void main(String[] args) {
    newObject();
    twoObjects();
    fullTape();
    refusedFeed();
    bytesInOrder();
    ends();
    emptied();
    lines();
    everyByte();
    longTokens();
    longNumbers();
    whatCanStand();
    numbersInBounds();
    valuesAreTaken();
    secondTimes();
    tooMany();
    notThere();
    firstMet();
    latestFault();
    inPlaceOfAll();
    finish();
  }

  private static RiverDiggers taken(String t, int lines) {
    RiverDiggers x = new RiverDiggers();
    feed(x, t);
    due(4, "text of '" + t + "'", x.text(), lines);
    due(5, "fault of '" + t + "'", x.fault(), 0);
    due(4, "count(4) behind '" + t + "'", x.count(4), 0);
    return x;
  }

  private static void refused(String t, int fault, int place) {
    RiverDiggers x = new RiverDiggers();
    x.dam(8, 5);
    feed(x, t);
    due(4, "text of '" + t + "'", x.text(), -10 - place);
    due(5, "fault of '" + t + "'", x.fault(), fault);
    due(4, "count(4) behind '" + t + "'", x.count(4), 0);
    due(4, "cell(8, 0) behind '" + t + "'", x.cell(8, 0), 5);
  }

  // ---- 1: "A PLAIN of 3 by 3, no FARMS; SHEETS of nothing."

  private static void newObject() {
    run(new RiverDiggers(),
        "rule 0 = 3", "rule 1 = 3", "rule 2 = 0", "rule 3 = 0", "rule 4 = 0", "rule 5 = 0", "rule 6 = 0",
        "cell 8 0 = 0", "cell 8 1 = NONE", "cell 9 0 = BAD", "farm 0 0 = BAD", "farm 0 1 = BAD",
        "count 0 = 9", "count 1 = 0", "count 2 = 0", "count 3 = 0", "count 4 = 0", "count 5 = NONE", "count 6 = 0", "count 7 = 1",
        "fault = 0", "torn = 0", "back 0 = STATE", "back 1 = STATE", "drop 0 = 0", "forget 0 = 0", "end 0 = 0");
    for (int k = 0; k < 4; k++) {
      for (int lane = 0; lane < 3; lane++) {
        run(new RiverDiggers(), "lay " + k + " 0 0 = -11", "read " + k + " " + lane + " 0 1 = 0", "torn = 1");
      }
    }
  }

  /** What one object is told is not told to another. */
  private static void twoObjects() {
    RiverDiggers x = of(WIDEST + "row 0 1;spring 3;farm 4;ground 0 1;law 2;silt;");
    run(x, "tell 0", "see 0 true", "keep 0", "sheet 0 1 7", "year 0", "feed 0", "read 1 0 0 1");
    newObject();
    run(x, "rule 0 = 5", "rule 6 = 1", "count 1 = 1", "count 2 = 1", "count 3 = 1", "count 4 = 8", "count 5 = 7", "torn = 1");
  }

  // ---- 2: "Eight bytes come behind THE TAPE, the highest first: how many it has. FULL: more than 320."

  private static void fullTape() {
    for (int length = 0; length <= 320; length++) {
      RiverDiggers x = new RiverDiggers();
      for (int i = 1; i <= 40; i++) due(2, "feed " + i, x.feed(0x2020202020202020L), 8 * i);
      due(3, "end(" + length + ")", x.end(length), 320);
      due(2, "feed behind " + length, x.feed(0), length + 8 > 320 ? FULL : length + 8);
      due(37, "count(4)", x.count(4), length + 8 > 320 ? length : length + 8);
    }
  }

  /** A refused feed leaves the bytes that stand. */
  private static void refusedFeed() {
    for (int length = 313; length <= 320; length++) {
      StringBuilder t = new StringBuilder("law 2;");
      while (t.length() < length - 5) t.append(' ');
      RiverDiggers x = new RiverDiggers();
      feed(x, t.append("silt;").toString());
      due(37, "count(4)", x.count(4), length);
      due(2, "feed behind " + length, x.feed(-1L), FULL);
      due(2, "feed behind " + length, x.feed(0L), FULL);
      run(x, "count 4 = " + length, "text = 2", "rule 4 = 2", "rule 5 = 1");
    }
  }

  private static void bytesInOrder() {
    RiverDiggers x = new RiverDiggers();
    due(2, "feed of 'law 1;si'", x.feed(0x6c617720313b7369L), 8);
    due(2, "feed of 'lt;sprin'", x.feed(0x6c743b737072696eL), 16);
    due(2, "feed of 'g 7;    '", x.feed(0x6720373b20202020L), 24);
    run(x, "text = 3", "rule 4 = 1", "rule 5 = 1", "rule 2 = 7");
    for (int at = 0; at < 8; at++) {
      for (int b = 128; b < 256; b += 127) {
        long v = 0x2020202020202020L ^ (long) (b ^ 32) << 8 * (7 - at);
        RiverDiggers y = new RiverDiggers();
        y.feed(0x2020202020202020L);
        y.feed(v);
        due(2, "text with byte " + b + " at " + (8 + at), y.text(), -10 - 8 - at);
        due(5, "fault with byte " + b, y.fault(), 1);
      }
    }
  }

  // ---- 3: "THE TAPE keeps its first n bytes: how many it had. BAD."

  private static void ends() {
    run(new RiverDiggers(), "end 0 = 0", "end 1 = BAD", "end -1 = BAD", "end LOW = BAD", "end TOP = BAD", "count 4 = 0");
    RiverDiggers x = new RiverDiggers();
    feed(x, "law 1;silt;");
    run(x, "count 4 = 11", "end 12 = BAD", "end -1 = BAD", "end 321 = BAD", "end 320 = BAD", "count 4 = 11", "end 11 = 11",
        "count 4 = 11", "end 6 = 11", "count 4 = 6", "end 7 = BAD", "text = 1", "rule 4 = 1", "rule 5 = 0");
    RiverDiggers y = new RiverDiggers();
    feed(y, "law 1;silt;");
    run(y, "end 12 = BAD", "end -1 = BAD", "text = 2", "rule 5 = 1");
    RiverDiggers z = new RiverDiggers();
    feed(z, "law 1;silt;");
    run(z, "end 6 = 11");
    feed(z, "spring 5;");
    run(z, "count 4 = 15", "text = 2", "rule 2 = 5", "rule 4 = 1", "rule 5 = 0");
    RiverDiggers none = new RiverDiggers();
    feed(none, "law 1;");
    run(none, "end 0 = 6", "text = 0", "rule 4 = 0");
    // What stood behind the end is not read any more, even if it would go on with the last token.
    String[][] cut = {{"law 12;", "5", "2"}, {"silt;", "4", "2"}, {"silt;!", "5", "0"}, {"law 1;x", "6", "0"}, {"law 1;;", "6", "0"}, {"law 1;    !", "9", "0"},
        {"farm 1;farm 12;", "13", "2"}, {"silts;", "4", "2"}, {"law 001;", "6", "2"}, {"spring 8;law 3;", "9", "0"}};
    for (String[] row : cut) {
      RiverDiggers c = new RiverDiggers();
      feed(c, row[0]);
      int n = Integer.parseInt(row[1]), fault = Integer.parseInt(row[2]);
      c.end(n);
      due(3, "text of '" + row[0] + "' to " + n, c.text(), fault == 0 ? 1 : -10 - n);
      due(3, "fault of '" + row[0] + "' to " + n, c.fault(), fault);
    }
    // So too behind a text that was longer.
    RiverDiggers w = new RiverDiggers();
    feed(w, "law 11;silt;");
    run(w, "text = -14");
    feed(w, "law 1");
    run(w, "text = -15", "fault = 2");
  }

  // ---- 4: "THE TAPE (empty then) tells all: how many lines"

  private static void emptied() {
    RiverDiggers x = new RiverDiggers();
    feed(x, "law 1;");
    run(x, "text = 1", "count 4 = 0", "end 1 = BAD");
    feed(x, "law 3;");
    run(x, "text = -14", "count 4 = 0", "end 1 = BAD", "rule 4 = 1");
    feed(x, "silt;");
    run(x, "count 4 = 5", "text = 1", "rule 4 = 0", "rule 5 = 1", "text = 0", "rule 5 = 0");
  }

  private static void lines() {
    taken("", 0);
    taken(" ", 0);
    taken("silt;", 1);
    taken("silt;law 0;", 2);
    StringBuilder t = new StringBuilder("plain5 5;row0 1;row1 1;row2 1;row3 1;row4 1;spring1;farm1;farm1;farm1;law1;silt;");
    for (int c = 0; c < 22; c++) t.append("ground").append(c / 8).append(' ').append(c).append(';');
    taken(t.toString(), 34);
    while (t.length() < 320) t.append(' ');
    taken(t.toString(), 34);
    StringBuilder blanks = new StringBuilder();
    while (blanks.length() < 320) blanks.append(' ');
    taken(blanks.toString(), 0);
    taken(blanks.substring(0, 315) + "silt;", 1);
    refused(blanks.substring(0, 316) + "silt", 2, 320);
    refused(blanks.substring(0, 319) + "!", 1, 319);
    refused(blanks.substring(0, 310) + "spring 25;", 3, 317);
    refused(blanks.substring(0, 311) + "spring 9;", 6, 320);
  }

  // ---- TOKENS, "each as long as may be, blanks (32) between"; 1: "no TOKEN"

  private static void everyByte() {
    for (int b = 0; b < 256; b++) {
      char sign = (char) b;
      boolean letter = b >= 'a' && b <= 'z', figure = b >= '0' && b <= '9', stop = b == ';', blank = b == ' ';
      boolean token = letter || figure || stop;
      if (blank) {
        taken("" + sign, 0);
        taken("silt" + sign + ";", 1);
        taken("law 1" + sign + ";", 1);
        taken("law" + sign + "1;", 1);
      } else {
        refused("" + sign, token ? 2 : 1, 0);
        refused("silt" + sign + ";", token ? 2 : 1, letter ? 0 : stop ? 5 : 4);
        refused("law 1" + sign + ";", figure ? 3 : token ? 2 : 1, figure ? 4 : stop ? 6 : 5);
        if (!figure) refused("law" + sign + "1;", token ? 2 : 1, letter ? 0 : 3);
      }
    }
  }

  private static void longTokens() {
    taken("law1;", 1);
    taken("law 1;silt;", 2);
    taken("silt;law1;spring8;", 3);
    taken("row0 1 2 3;", 1);
    taken("   law   1   ;   ", 1);
    refused("law11;", 3, 3);
    refused("plain33;", 3, 5);
    refused("law1 1;", 2, 5);
    refused("siltlaw 1;", 2, 0);
    refused("silts;", 2, 0);
    refused("sil;", 2, 0);
    refused("sil t;", 2, 0);
    refused("silt;s", 2, 5);
    refused("law 1silt;", 2, 5);
    String[] names = {"plain", "row", "spring", "farm", "ground", "law", "silt"};
    for (String name : names) {
      refused(name.substring(1) + ";", 2, 0);
      refused(name.substring(0, name.length() - 1) + ";", 2, 0);
      refused(name + "a;", 2, 0);
      refused(name.substring(0, name.length() - 1) + "z;", 2, 0);
      refused("a" + name + ";", 2, 0);
      refused((char) (name.charAt(0) - 32) + name.substring(1) + ";", 1, 0);
      refused("silt;" + name + name + ";", 2, 5);
      for (int i = 0; i < name.length(); i++) refused(name.substring(0, i) + "z" + name.substring(i + 1) + " 1;", 2, 0);
      for (String other : names) if (!other.equals(name)) refused(name + other + ";", 2, 0);
    }
  }

  // ---- 1: "a NUMBER that is too long (its first byte)"

  private static void longNumbers() {
    taken("law 01;", 1);
    taken("law 00;", 1);
    taken("spring 08;", 1);
    String[] openings = {"plain ", "plain 3 ", "row ", "row 0 ", "row 0 1 ", "spring ", "farm ", "ground ", "ground 0 ", "ground 0 1 ", "law "};
    for (String t : openings) {
      refused(t + "000;", 1, t.length());
      refused(t + "002;", 1, t.length());
      refused(t + "100", 1, t.length());
      refused(t + "4294967298;", 1, t.length());
      refused(t + "18446744073709551618;", 1, t.length());
    }
    // It is read, and found too long, ahead of whether it can stand there; not ahead of the token before.
    refused("100", 1, 0);
    refused("silt 100;", 1, 5);
    refused("law 1 100;", 1, 6);
    refused("law 3 100;", 3, 4);
    refused("zz 100;", 2, 0);
    refused("silt;silt 100;", 4, 5);
    refused(ALL_FARMS + "farm 100;", 5, 21);
    refused("row 0 1 1 1 1 1 100;", 1, 16);
    refused("ground 0 0 1 2 3 4 5 6 7 100;", 1, 25);
  }

  // ---- 2: "a TOKEN that can not stand there (a NAME that begins no line; or the end: the length)"

  private static void whatCanStand() {
    // What was read, then what may come: a Name, a Figure, a Stop, the End.
    String[][] table = {
      {"silt;", "NE"}, {"law 1;", "NE"},
      {"plain", "F"}, {"plain 3", "F"}, {"plain 3 3", "S"},
      {"row", "F"}, {"row 0", "F"}, {"row 0 1", "FS"}, {"row 0 1 1", "FS"},
      {"spring", "F"}, {"spring 1", "S"},
      {"farm", "F"}, {"farm 1", "S"},
      {"ground", "F"}, {"ground 0", "F"}, {"ground 0 1", "FS"}, {"ground 0 1 3", "FS"},
      {"law", "F"}, {"law 1", "S"}, {"silt", "S"}
    };
    for (String[] row : table) {
      String t = row[0];
      if (!row[1].contains("N")) {
        refused(t + " farm", 2, t.length() + 1);
        refused(t + " x;", 2, t.length() + 1);
      }
      if (!row[1].contains("F")) refused(t + " 2", 2, t.length() + 1);
      if (!row[1].contains("S")) refused(t + " ;", 2, t.length() + 1);
      if (!row[1].contains("E")) {
        refused(t, 2, t.length());
        refused(t + "   ", 2, t.length() + 3);
      }
    }
    refused("2", 2, 0);
    refused(" ;", 2, 1);
    refused("x", 2, 0);
    refused("silt;;", 2, 5);
    refused("silt; x;", 2, 6);
    refused("row 0 1 1 1 1 1 silt;", 2, 16);
    refused("row 0 1 1 1 1 1", 2, 15);
    refused("ground 0 0 1 2 3 4 5 6 7 silt;", 2, 25);
    refused("ground 0 0 1 2 3 4 5 6 7", 2, 24);
  }

  // ---- 3: "a NUMBER out of its bounds"

  private static void bounds(String ahead, String behind, int low, int high) {
    for (int v = 0; v < 100; v++) {
      String[] spelled = v < 10 ? new String[] {"" + v, "0" + v} : new String[] {"" + v};
      for (String s : spelled) {
        String t = ahead + s + behind;
        if (v < low || v > high) {
          refused(t, 3, ahead.length());
        } else {
          RiverDiggers x = new RiverDiggers();
          feed(x, t);
          due(4, "text of '" + t + "' is taken", x.text() < 0 ? 0 : 1, 1);
          due(5, "fault of '" + t + "'", x.fault(), 0);
        }
      }
    }
  }

  private static void numbersInBounds() {
    bounds("plain ", " 5;", 2, 5);
    bounds("plain 5 ", ";", 2, 5);
    bounds(WIDEST + "row ", " 1;", 0, 4);
    bounds(WIDEST + "row 4 ", ";", 0, 9);
    bounds(WIDEST + "row 4 1 ", " 1;", 0, 9);
    bounds(WIDEST + "row 4 1 1 1 1 ", ";", 0, 9);
    bounds(WIDEST + "spring ", ";", 0, 24);
    bounds("farm ", ";", 1, 9);
    bounds("farm 1;farm 1;farm ", ";", 1, 9);
    bounds(WIDEST + ALL_FARMS + "ground ", " 24;", 0, 2);
    bounds(WIDEST + ALL_FARMS + "ground 2 ", ";", 0, 24);
    bounds("law ", ";", 0, 2);
    // A second cell, which may not be the first.
    for (int v = 0; v < 100; v++) {
      String t = WIDEST + "farm 1;ground 0 24 ";
      if (v == 24) refused(t + v + ";", 4, t.length());
      else if (v > 24) refused(t + v + ";", 3, t.length());
      else taken(t + v + ";", 3);
    }
  }

  private static void valuesAreTaken() {
    for (int wide = 2; wide <= 5; wide++) {
      for (int high = 2; high <= 5; high++) {
        RiverDiggers x = taken("plain " + wide + " " + high + ";", 1);
        run(x, "rule 0 = " + wide, "rule 1 = " + high, "cell " + (wide * high - 1) + " 0 = 0", "cell " + wide * high + " 0 = BAD",
            "cell -1 0 = BAD", "count 0 = " + wide * high);
        // The last row and its last cell, numbered row by row from the north, each row from the west.
        StringBuilder t = new StringBuilder("plain " + wide + " " + high + ";row " + (high - 1));
        for (int i = 0; i < wide; i++) t.append(' ').append(9 - i);
        RiverDiggers y = taken(t + ";", 2);
        for (int c = 0; c < wide * high; c++) {
          int column = c - wide * (high - 1);
          due(7, "cell(" + c + ", 0) of " + t, y.cell(c, 0), column < 0 ? 0 : 3 * (9 - column));
        }
      }
    }
    for (int v = 0; v < 10; v++) run(taken("row 1 5 " + v + ";", 1), "cell 3 0 = 15", "cell 4 0 = " + 3 * v, "cell 5 0 = 0", "cell 1 0 = 0");
    for (int v = 1; v < 10; v++) run(taken("farm " + v + ";farm " + (10 - v) + ";", 2), "farm 0 0 = " + v, "farm 1 0 = " + (10 - v), "rule 3 = 2");
    for (int v = 0; v < 3; v++) run(taken("law " + v + ";", 1), "rule 4 = " + v);
    for (int c = 0; c < 25; c++) {
      run(taken(WIDEST + "spring " + c + ";", 2), "rule 2 = " + c, "bed 0 = " + c);
      for (int f = 0; f < 3; f++) {
        RiverDiggers x = taken(WIDEST + ALL_FARMS + "ground " + f + " " + c + ";", 5);
        for (int g = 0; g < 3; g++) due(8, "farm(" + g + ", 1)", x.farm(g, 1), g == f ? 1 << c : 0);
        for (int d = 0; d < 25; d++) due(7, "cell(" + d + ", 1)", x.cell(d, 1), d == c ? f : NONE);
      }
    }
    run(taken("silt;", 1), "rule 5 = 1");
    run(taken("law 0;", 1), "rule 5 = 0");
    // A row of fewer yards than cells tells the first of them; the others are 0.
    run(taken("row 2 7;", 1), "cell 6 0 = 21", "cell 7 0 = 0", "cell 8 0 = 0");
  }

  // ---- 4: "plain, spring, law, silt for the second time (its NAME), a row that was told (it), a CELL that is GROUND already (it)"

  private static void secondTimes() {
    String[] once = {"plain 3 3;", "spring 0;", "law 0;", "silt;"};
    for (String line : once) {
      String name = line.split("[ ;]")[0];
      refused(line + line, 4, line.length());
      refused(line + name, 4, line.length());
      refused(line + "  " + name + " !", 4, line.length() + 2);
      refused(line + name + " 99;", 4, line.length());
      refused(line + "farm 1;" + line, 4, line.length() + 7);
      for (String other : once) if (!other.equals(line)) taken(line + other, 2);
    }
    for (int row = 0; row < 5; row++) {
      String line = WIDEST + "row " + row + " 1;";
      refused(line + "row " + row, 4, line.length() + 4);
      refused(line + "row " + row + " 1;", 4, line.length() + 4);
      refused(line + "row 0" + row + " 99", 4, line.length() + 4);
      refused(line + "row " + (row + 1) % 5 + " 1;row " + row + " 1;", 4, line.length() + 12);
      for (int other = 0; other < 5; other++) if (other != row) taken(line + "row " + other + " 1;", 3);
    }
    // A row of noughts was told too.
    refused("row 1 0;row 1 0;", 4, 12);
    for (int f = 0; f < 3; f++) {
      for (int g = 0; g < 3; g++) {
        String line = "ground " + f + " 24 0;ground " + g + " 3 ";
        refused(line + "24", 4, line.length());
        refused(line + "0 ", 4, line.length());
        refused(line + "00;", 4, line.length());
        refused(line + "3;", 4, line.length());
        refused(line + "4 24;", 4, line.length() + 2);
        taken(WIDEST + ALL_FARMS + line + "1;", 6);
      }
    }
    refused("ground 0 5 5;", 4, 11);
    refused("ground 0 5 05;", 4, 11);
  }

  // ---- 5: "the 6th yards of a row, the 9th CELL of a FARM (it), the 4th farm (its NAME)"

  private static void tooMany() {
    for (int row = 0; row < 5; row++) {
      String line = "row " + row + " 9 0 1 2 3";
      taken(WIDEST + line + ";", 2);
      refused(WIDEST + line + " 4;", 5, 10 + 16);
      refused(WIDEST + line + " 4", 5, 10 + 16);
      refused("plain 2 2;" + line + " 0 7 7;", 5, 10 + 16);
    }
    taken(ALL_FARMS, 3);
    refused(ALL_FARMS + "farm 1;", 5, 21);
    refused(ALL_FARMS + "farm", 5, 21);
    refused(ALL_FARMS + " farm 0;", 5, 22);
    refused("farm 1;farm 1;law 1;farm 1;silt;farm;", 5, 32);
    for (int f = 0; f < 3; f++) {
      String ahead = WIDEST + ALL_FARMS, line = "ground " + f + " 8 7 6 5 4 3 2 1";
      taken(ahead + line + ";", 5);
      refused(line + " 0;", 5, 25);
      refused(line + " 0", 5, 25);
      // Over several lines, with those of another farm between.
      String two = "ground " + f + " 8 7 6 5;ground " + (f + 1) % 3 + " 9;ground " + f + " 4 3 2 1;";
      taken(ahead + two, 7);
      refused(two + "ground " + f + " 0", 5, two.length() + 9);
      String eight = "ground " + f + " 8 7 6 5 4 3 2;ground " + f + " 1 ";
      refused(eight + "0;", 5, eight.length());
      String nine = "ground " + f + " 0 1 2 3 4 5 6 7;";
      refused(nine + "ground " + f + " 24;", 5, nine.length() + 9);
    }
    String all = WIDEST + ALL_FARMS + "ground 0 0 1 2 3 4 5 6 7;ground 1 8 9 10 11 12 13 14 15;ground 2 16 17 18 19 20 21 22 23;";
    run(taken(all, 7), "farm 0 1 = 255", "farm 1 1 = 65280", "farm 2 1 = 16711680", "cell 24 1 = NONE");
    refused(all + "ground 0 24;", 5, all.length() + 9);
    refused(all + "ground 2 24;", 5, all.length() + 9);
  }

  // ---- 6: "Behind all (the length): a row, a CELL (of ground, of the spring, of a row), a FARM that there is not"

  private static void there(String plain, String line, boolean is) {
    String[] texts = {plain + line, line + plain, plain + line + "  ", plain + line + "silt;"};
    for (int i = 0; i < texts.length; i++) {
      RiverDiggers x = new RiverDiggers();
      feed(x, texts[i]);
      int got = x.text();
      if (is) due(4, "text of '" + texts[i] + "' is taken", got < 0 ? 0 : 1, 1);
      else due(4, "text of '" + texts[i] + "'", got, -10 - texts[i].length());
      due(5, "fault of '" + texts[i] + "'", x.fault(), is ? 0 : 6);
    }
  }

  private static void notThere() {
    for (int wide = 2; wide <= 5; wide++) {
      for (int high = 2; high <= 5; high++) {
        String plain = "plain " + wide + " " + high + ";";
        sides(plain, wide, high);
        if (wide == 3 && high == 3) sides("", wide, high);
      }
    }
    for (int farms = 0; farms <= 3; farms++) {
      for (int f = 0; f < 3; f++) there(ALL_FARMS.substring(0, 7 * farms), "ground " + f + " 0;", f < farms);
    }
  }

  private static void sides(String plain, int wide, int high) {
    for (int row = 0; row < 5; row++) there(plain, "row " + row + " 0;", row < high);
    StringBuilder yards = new StringBuilder();
    for (int n = 1; n <= 5; n++) {
      yards.append(" 0");
      there(plain, "row 0" + yards + ";", n <= wide);
      there(plain, "row " + (high - 1) + yards + ";", n <= wide);
    }
    for (int c = 0; c < 25; c++) {
      there(plain, "spring " + c + ";", c < wide * high);
      there(plain, "farm 1;ground 0 " + c + ";", c < wide * high);
      there(plain, "farm 1;farm 1;farm 1;ground 2 " + c + ";", c < wide * high);
    }
  }

  // ---- "FAULTS, the first met as it is read (a TOKEN is read when the one before has been taken)"

  private static void firstMet() {
    refused("law 9;silt;silt;", 3, 4);
    refused("silt;silt;law 9;", 4, 5);
    refused("spring 9;law 9;", 3, 13);
    refused("spring 24;row 4 1", 2, 17);
    refused("spring 24;!", 1, 10);
    refused("spring 24;silt;silt;", 4, 15);
    refused("spring 24;" + ALL_FARMS + "farm 1;", 5, 31);
    refused("spring 24;", 6, 10);
    refused("law 3!", 3, 4);
    refused("law 1!", 1, 5);
    refused("law !", 1, 4);
    refused("x!", 2, 0);
    refused("plain 9 !", 3, 6);
    refused("plain 3 9 !", 3, 8);
    refused("row 0 1;row 0!", 4, 12);
    refused("row 5!", 3, 4);
    refused("row 0 10!", 3, 6);
    refused("ground 3!", 3, 7);
    refused("ground 0 25!", 3, 9);
    refused("ground 0 1 1!", 4, 11);
    refused("farm 0!", 3, 5);
    refused("spring 25!", 3, 7);
    refused("silt!", 1, 4);
    refused("row 0 1 1 1 1 1 1!", 5, 16);
    // Faults of one token: the document does not say which is met first; the class goes by their numbers.
    refused("row 0 1 1 1 1 1 10;", 3, 16);
    refused("ground 0 0 1 2 3 4 5 6 7 25;", 3, 25);
    refused("ground 0 0 1 2 3 4 5 6 7 7;", 4, 25);
  }

  // ---- 5: "The FAULT of the latest text(); 0."

  private static void latestFault() {
    String[] texts = {"!", "x", "law 3;", "silt;silt", ALL_FARMS + "farm", "spring 9;"};
    RiverDiggers x = new RiverDiggers();
    due(5, "fault() of a new object", x.fault(), 0);
    for (int i = 0; i < texts.length; i++) {
      feed(x, texts[i]);
      due(5, "fault() ahead of text " + i, x.fault(), i);
      x.text();
      due(5, "fault() of text " + i, x.fault(), i + 1);
      run(x, "dam 0 1", "year 0", "keep 0", "back 0", "feed 0", "end 0", "rule 9", "fault = " + (i + 1));
    }
    feed(x, "law 1;");
    run(x, "text = 1", "fault = 0");
    feed(x, "!");
    run(x, "text = -10", "fault = 1", "text = 0", "fault = 0");
  }

  // ---- "A text that is taken tells all, in place of what there was; nothing is TOLD, SEEN; IMAGES are gone."

  private static RiverDiggers rich() {
    RiverDiggers x = of("plain 5 4;row 0 9 8 7 6 5;row 3 1 2 3 4 5;spring 19;farm 9;farm 8;farm 7;ground 0 0 1;ground 2 19;law 2;silt;");
    run(x, "dam 7 5", "year 0", "year 0", "keep 0", "keep 1", "tell 0", "tell 5", "see 0 true", "see 1 false", "year 0");
    return x;
  }

  private static void inPlaceOfAll() {
    RiverDiggers x = rich();
    run(x, "rule 6 = 3", "count 1 = 2", "count 2 = 2", "count 3 = 2", "text = 0",
        "rule 0 = 3", "rule 1 = 3", "rule 2 = 0", "rule 3 = 0", "rule 4 = 0", "rule 5 = 0", "rule 6 = 0",
        "count 0 = 9", "count 1 = 0", "count 2 = 0", "count 3 = 0", "count 6 = 0", "count 7 = 1",
        "farm 0 0 = BAD", "judge 0 = NONE", "fits 0 = 1", "back 0 = STATE", "back 1 = STATE", "drop 1 = BAD", "forget 1 = BAD",
        "keep 0 = 0", "keep 1 = 0");
    for (int c = 0; c < 9; c++) run(x, "cell " + c + " 0 = 0", "cell " + c + " 1 = NONE");
    // Lines that do not come tell what there is at first.
    RiverDiggers y = rich();
    feed(y, "farm 1;");
    run(y, "text = 1", "rule 0 = 3", "rule 1 = 3", "rule 2 = 0", "rule 3 = 1", "rule 4 = 0", "rule 5 = 0", "rule 6 = 0",
        "farm 0 0 = 1", "farm 0 1 = 0", "farm 1 0 = BAD", "count 6 = 0", "tell 0 = 1", "see 0 true = 1");
    RiverDiggers z = rich();
    feed(z, "law 1;");
    run(z, "text = 1", "rule 3 = 0", "rule 4 = 1", "rule 5 = 0");
    RiverDiggers w = rich();
    feed(w, "plain 5 4;row 1 0 0 1;");
    run(w, "text = 2", "count 6 = 3", "cell 7 0 = 3", "cell 0 0 = 0", "cell 19 0 = 0", "rule 2 = 0");
    // Neither sheets nor the latest read are of the text.
    RiverDiggers s = new RiverDiggers();
    run(s, "sheet 0 1 7", "read 0 2 0 1 = 0", "torn = 3", "text = 0", "count 5 = 7", "torn = 3", "read 0 1 6 1 = 1", "torn = 0");
  }
}
