/**
 * The promises of the document one by one. The due answers were found by hand, but for the last plain of alone(), which
 * is that of the shared runs, and the steep plain of again(), which was searched for with the class itself; those of
 * readingNone() are told by a rule beside the calls.
 */
public final class PromisesTest extends Due {
  /** A stair of 5 cells along the north, walls south of it; the farm has one cell on it, one beside, one far. */
  private static RiverDiggers stair() {
    return of("plain 5 3;row 0 5 4 3 2 1;row 1 9 9 9 9 9;row 2 9 9 9 9 9;farm 4;ground 0 1 6 11;");
  }

  /** A spring between two fields: it goes east, but west if that alone is cut. */
  private static RiverDiggers twoFields() {
    return of("plain 3 2;row 0 1 2 1;row 1 3 3 3;spring 1;farm 1;farm 2;ground 0 0;ground 1 2;");
  }

  /** Two farms of whom one would always rather do something else. */
  private static RiverDiggers quarrel() {
    return of("plain 3 2;row 0 1 2 1;row 1 2 3 3;spring 4;farm 1;farm 1;ground 0 3 0;ground 1 1 2;");
  }

  /** Four cells of which silt lifts the last, in the second year over the one ahead of it. */
  private static RiverDiggers silting() { return of("plain 4 2;row 0 3 2 1 0;row 1 9 9 9 9;silt;"); }

  /** A cell as many yards high, next to a spring of two yards. */
  private static RiverDiggers bank(int yards) {
    return of("plain 2 2;row 0 2 9;row 1 " + yards + " 9;farm 3;ground 0 2;");
  }

  public static void main(String[] args) {
    newObject();
    tape();
    texts();
    faults();
    telling();
    asking();
    changing();
    years();
    silt();
    told();
    alone();
    together();
    themselves();
    quiet();
    luck();
    seen();
    images();
    sheets();
    reading();
    readingNone();
    lastYear();
    counting();
    finish();
  }

  private static void newObject() {
    RiverDiggers x = new RiverDiggers();
    int[] rules = {3, 3, 0, 0, 0, 0, 0};
    for (int i = 0; i < 7; i++) due(1, "rule(" + i + ")", x.rule(i), rules[i]);
    for (int c = 0; c < 9; c++) {
      due(1, "cell(" + c + ", 0)", x.cell(c, 0), 0);
      due(1, "cell(" + c + ", 1)", x.cell(c, 1), NONE);
    }
    due(1, "cell(9, 0)", x.cell(9, 0), BAD);
    due(1, "farm(0, 0)", x.farm(0, 0), BAD);
    for (int k = 0; k < 4; k++) due(1, "lay(" + k + ", 0, 0)", x.lay(k, 0, 0), -11);
    int[] counts = {9, 0, 0, 0, 0, NONE, 0, 1};
    for (int i = 0; i < 8; i++) due(1, "count(" + i + ")", x.count(i), counts[i]);
    due(5, "fault()", x.fault(), 0);
    due(36, "torn()", x.torn(), 0);
    due(32, "back(0)", x.back(0), STATE);
    due(32, "back(1)", x.back(1), STATE);
    // A plain without a slope: north ahead of east ahead of south ahead of west.
    int[] bed = {0, 1, 2, 5, 8, 7, 4, 3, 6};
    for (int i = 0; i < 9; i++) due(9, "bed(" + i + ")", x.bed(i), bed[i]);
    due(9, "bed(9)", x.bed(9), NONE);
  }

  private static void tape() {
    RiverDiggers x = new RiverDiggers();
    for (int i = 1; i <= 40; i++) due(2, "feed " + i, x.feed(-1L), 8 * i);
    due(2, "feed 41", x.feed(0L), FULL);
    due(2, "count(4)", x.count(4), 320);
    due(3, "end(321)", x.end(321), BAD);
    due(3, "end(-1)", x.end(-1), BAD);
    due(3, "end(LOW)", x.end(LOW), BAD);
    due(3, "end(TOP)", x.end(TOP), BAD);
    due(3, "end(320)", x.end(320), 320);
    due(3, "end(313)", x.end(313), 320);
    due(2, "feed behind 313", x.feed(0L), FULL);
    due(3, "end(312)", x.end(312), 313);
    due(2, "feed behind 312", x.feed(0L), 320);
    due(3, "end(0)", x.end(0), 320);
    due(3, "end(1) of none", x.end(1), BAD);
    due(2, "feed of law 2;", x.feed(0x6c617720323b2020L), 8);
    due(4, "text of law 2;", x.text(), 1);
    due(6, "rule(4)", x.rule(4), 2);
    due(37, "count(4)", x.count(4), 0);
  }

  private static void takes(String t, int lines) {
    RiverDiggers x = new RiverDiggers();
    feed(x, t);
    due(4, "text of '" + t + "'", x.text(), lines);
    due(5, "fault of '" + t + "'", x.fault(), 0);
  }

  private static void texts() {
    takes("", 0);
    takes("   ", 0);
    takes("law1;", 1);
    takes("  silt  ;law 1 ;  ", 2);
    takes("row0 1 2 3;", 1);
    takes("row 02 09 00 1;", 1);
    takes("row 1 1;row 0 1;row 2 1;", 3);
    takes("row 0 1 2;plain 2 2;", 2);
    takes("plain 5 5;row 4 9 9 9 9 9;spring 24;", 3);
    takes("ground 0 1;farm 1;", 2);
    takes("farm 1;farm 9;farm 5;ground 2 8;ground 2 7;", 5);
    takes("ground 0 0 1 2 3;ground 0 4 5 6 7;farm 1;ground 1 8;farm 1;", 5);
    StringBuilder many = new StringBuilder("farm 1;");
    while (many.length() < 320) many.append(' ');
    takes(many.toString(), 1);
  }

  private static void refuses(String t, int fault, int place) {
    RiverDiggers x = of("plain 4 4;spring 7;farm 3;law 1;silt;row 1 5;");
    x.tell(5);
    x.see(3, true);
    x.keep(1);
    x.year(0);
    feed(x, t);
    due(4, "text of '" + t + "'", x.text(), -10 - place);
    due(5, "fault of '" + t + "'", x.fault(), fault);
    due(4, "count(4) behind '" + t + "'", x.count(4), 0);
    int[] rules = {4, 4, 7, 1, 1, 1, 1};
    for (int i = 0; i < 7; i++) due(4, "rule(" + i + ") behind '" + t + "'", x.rule(i), rules[i]);
    due(4, "cell(4, 0) behind '" + t + "'", x.cell(4, 0), 15);
    due(4, "farm(0, 1) behind '" + t + "'", x.farm(0, 1), 0);
    for (int i = 1; i < 4; i++) due(4, "count(" + i + ") behind '" + t + "'", x.count(i), 1);
    due(5, "text of nothing", x.text(), 0);
    due(5, "fault of nothing", x.fault(), 0);
  }

  private static void faults() {
    refuses("Law 1;", 1, 0);
    refuses("law 1;\0", 1, 6);
    refuses("law 1; " + (char) 200, 1, 7);
    refuses("law -1;", 1, 4);
    refuses("law 001;", 1, 4);
    refuses("farm 100", 1, 5);
    refuses("law 1\n;", 1, 5);
    refuses("la w 1;", 2, 0);
    refuses("rows 1;", 2, 0);
    refuses("zz;", 2, 0);
    refuses("lawz 1;", 2, 0);
    refuses("law 1{;", 1, 5);
    refuses("law 1`;", 1, 5);
    refuses("law 1:;", 1, 5);
    refuses("law 1/;", 1, 5);
    refuses("law 99999999999999999999;", 1, 4);
    refuses("lawsilt;", 2, 0);
    refuses(";", 2, 0);
    refuses("  7;", 2, 2);
    refuses("law 1;;", 2, 6);
    refuses("law", 2, 3);
    refuses("law  ", 2, 5);
    refuses("law ;", 2, 4);
    refuses("law silt;", 2, 4);
    refuses("law 1 2;", 2, 6);
    refuses("law 1 silt;", 2, 6);
    refuses("silt 1;", 2, 5);
    refuses("silt", 2, 4);
    refuses("plain 3;", 2, 7);
    refuses("plain 3 3 3;", 2, 10);
    refuses("spring;", 2, 6);
    refuses("farm;", 2, 4);
    refuses("farm 1 2;", 2, 7);
    refuses("row;", 2, 3);
    refuses("row 0 1", 2, 7);
    refuses("row 0 1 silt;", 2, 8);
    refuses("ground;", 2, 6);
    refuses("ground 0 ;", 2, 9);
    refuses("ground 0 1", 2, 10);
    refuses("plain 1 3;", 3, 6);
    refuses("plain 6 3;", 3, 6);
    refuses("plain 3 1;", 3, 8);
    refuses("row 5 1;", 3, 4);
    refuses("row 0 1 10;", 3, 8);
    refuses("spring 25;", 3, 7);
    refuses("farm 0;", 3, 5);
    refuses("farm 10;", 3, 5);
    refuses("ground 3 1;", 3, 7);
    refuses("ground 0 25;", 3, 9);
    refuses("law 3;", 3, 4);
    refuses("law 3", 3, 4);
    refuses("plain 2 2;plain", 4, 10);
    refuses("spring 1;spring!", 4, 9);
    refuses("law 0;law", 4, 6);
    refuses("silt;silt", 4, 5);
    refuses("row 3 1;row 3", 4, 12);
    refuses("ground 0 7 7;", 4, 11);
    refuses("ground 0 7;ground 1 8 7", 4, 22);
    refuses("row 0 1 1 1 1 1 1", 5, 16);
    refuses("farm 1;farm 1;farm 1;farm", 5, 21);
    refuses("ground 1 0 1 2 3 4 5 6 7 8", 5, 25);
    refuses("ground 1 0 1 2 3;ground 1 4 5 6 7;ground 1 8", 5, 43);
    refuses("row 3 1;", 6, 8);
    refuses("plain 2 2;row 2 1; ", 6, 19);
    refuses("plain 2 5;row 0 1 1 1;", 6, 22);
    refuses("spring 9;", 6, 9);
    refuses("plain 2 3;spring 6;", 6, 19);
    refuses("farm 1;ground 0 9;", 6, 18);
    refuses("farm 1;ground 1 0;", 6, 18);
    refuses("ground 2 0;farm 1;farm 1;", 6, 25);
  }

  /** A text that is taken stands in place of all but sheets and the latest read. */
  private static void telling() {
    RiverDiggers x = of("plain 4 4;spring 7;farm 3;law 1;silt;row 1 5;ground 0 4;");
    x.tell(5);
    x.see(3, true);
    x.keep(0);
    x.keep(1);
    x.year(0);
    x.sheet(0, 1, 7);
    x.read(1, 0, 0, 1);
    feed(x, "plain 2 3;row 1 4;farm 6;ground 0 5;");
    due(4, "text()", x.text(), 4);
    int[] rules = {2, 3, 0, 1, 0, 0, 0};
    for (int i = 0; i < 7; i++) due(6, "rule(" + i + ")", x.rule(i), rules[i]);
    int[] heights = {0, 0, 12, 0, 0, 0};
    for (int c = 0; c < 6; c++) due(7, "cell(" + c + ", 0)", x.cell(c, 0), heights[c]);
    due(7, "cell(6, 0)", x.cell(6, 0), BAD);
    due(8, "farm(0, 0)", x.farm(0, 0), 6);
    due(8, "farm(0, 1)", x.farm(0, 1), 32);
    for (int i = 1; i < 4; i++) due(4, "count(" + i + ")", x.count(i), 0);
    due(32, "back(0)", x.back(0), STATE);
    due(32, "back(1)", x.back(1), STATE);
    due(37, "count(5)", x.count(5), 7);
    due(36, "torn()", x.torn(), 1);
  }

  private static void asking() {
    RiverDiggers x = stair();
    int[] rules = {5, 3, 0, 1, 0, 0, 0};
    for (int i = 0; i < 7; i++) due(6, "rule(" + i + ")", x.rule(i), rules[i]);
    int[] none = {-1, LOW, TOP};
    for (int v : none) {
      due(6, "rule(" + v + ")", x.rule(v), BAD);
      due(7, "cell(" + v + ", 0)", x.cell(v, 0), BAD);
      due(7, "cell(0, " + v + ")", x.cell(0, v), BAD);
      due(8, "farm(" + v + ", 0)", x.farm(v, 0), BAD);
      due(8, "farm(0, " + v + ")", x.farm(0, v), BAD);
    }
    due(6, "rule(7)", x.rule(7), BAD);
    due(7, "cell(0, 0)", x.cell(0, 0), 15);
    due(7, "cell(14, 0)", x.cell(14, 0), 27);
    due(7, "cell(15, 0)", x.cell(15, 0), BAD);
    due(7, "cell(11, 1)", x.cell(11, 1), 0);
    due(7, "cell(12, 1)", x.cell(12, 1), NONE);
    due(7, "cell(12, 2)", x.cell(12, 2), BAD);
    due(8, "farm(0, 0)", x.farm(0, 0), 4);
    due(8, "farm(0, 1)", x.farm(0, 1), 2 + 64 + 2048);
    due(8, "farm(0, 2)", x.farm(0, 2), 4);
    due(8, "farm(0, 3) by law 0", x.farm(0, 3), 2 + 64 + 2048);
    x.law(1);
    due(8, "farm(0, 3) by law 1", x.farm(0, 3), 2 + 64);
    x.law(2);
    due(8, "farm(0, 3) by law 2", x.farm(0, 3), 64);
    x.law(0);
    x.dam(6, 2);
    due(8, "farm(0, 3) of 2 parts", x.farm(0, 3), 2 + 2048);
    x.dam(6, 3);
    due(8, "farm(0, 3) of 3 parts", x.farm(0, 3), 2 + 64 + 2048);
    due(8, "farm(0, 4)", x.farm(0, 4), BAD);
    due(8, "farm(1, 0)", x.farm(1, 0), BAD);
    x.dam(6, 27);
    for (int i = 0; i < 5; i++) due(9, "bed(" + i + ")", x.bed(i), i);
    due(9, "bed(5)", x.bed(5), NONE);
    due(9, "bed(TOP)", x.bed(TOP), NONE);
    due(9, "bed(-1)", x.bed(-1), BAD);
    due(9, "bed(LOW)", x.bed(LOW), BAD);
    // The lowest goes ahead of the first way; a cell as high as the latest one is taken, a higher one not.
    RiverDiggers y = of("plain 3 3;row 0 9 2 9;row 1 2 3 1;row 2 9 1 9;spring 4;");
    due(9, "bed(1) of the lowest", y.bed(1), 5);
    y.dam(5, 4);
    due(9, "bed(1) of the lowest", y.bed(1), 7);
    y.dam(7, 9);
    y.dam(5, 9);
    due(9, "bed(1) of two", y.bed(1), 1);
    y.dam(1, 10);
    y.dam(3, 10);
    due(9, "bed(1) as high, east", y.bed(1), 5);
    y.dam(5, 10);
    due(9, "bed(1) as high, south", y.bed(1), 7);
    y.dam(3, 9);
    due(9, "bed(1) as high, south ahead of west", y.bed(1), 7);
    y.dam(7, 10);
    due(9, "bed(1) as high, west", y.bed(1), 3);
    y.dam(3, 10);
    due(9, "bed(1) of none", y.bed(1), NONE);
  }

  private static void changing() {
    RiverDiggers x = stair();
    due(10, "dam(2, 99)", x.dam(2, 99), 9);
    due(10, "cell(2, 0)", x.cell(2, 0), 99);
    due(10, "count(0)", x.count(0), 2);
    due(10, "dam(2, 0)", x.dam(2, 0), 99);
    due(10, "count(0)", x.count(0), 3);
    due(10, "dam(2, 100)", x.dam(2, 100), BAD);
    due(10, "dam(2, -1)", x.dam(2, -1), BAD);
    due(10, "dam(15, 1)", x.dam(15, 1), BAD);
    due(10, "dam(-1, 1)", x.dam(-1, 1), BAD);
    due(10, "cell(2, 0)", x.cell(2, 0), 0);
    due(11, "move(3)", x.move(3), 0);
    due(11, "rule(2)", x.rule(2), 3);
    due(11, "bed(0)", x.bed(0), 3);
    due(11, "bed(1)", x.bed(1), 2);
    due(11, "move(15)", x.move(15), BAD);
    due(11, "move(-1)", x.move(-1), BAD);
    due(11, "move(14)", x.move(14), 3);
    due(12, "law(2)", x.law(2), 0);
    due(12, "law(3)", x.law(3), BAD);
    due(12, "law(-1)", x.law(-1), BAD);
    due(12, "law(1)", x.law(1), 2);
    due(12, "rule(4)", x.rule(4), 1);
    due(13, "silt(true)", x.silt(true), 0);
    due(13, "silt(true)", x.silt(true), 1);
    due(13, "rule(5)", x.rule(5), 1);
    due(13, "silt(false)", x.silt(false), 1);
    due(13, "silt(false)", x.silt(false), 0);
    due(13, "rule(5)", x.rule(5), 0);
    due(14, "price(0, 9)", x.price(0, 9), 4);
    due(14, "price(0, 10)", x.price(0, 10), BAD);
    due(14, "price(0, 0)", x.price(0, 0), BAD);
    due(14, "price(1, 5)", x.price(1, 5), BAD);
    due(14, "price(-1, 5)", x.price(-1, 5), BAD);
    due(14, "price(0, 1)", x.price(0, 1), 9);
    due(14, "farm(0, 0)", x.farm(0, 0), 1);
    x.move(0);
    x.price(0, 7);
    due(8, "farm(0, 2)", x.farm(0, 2), 7);
  }

  private static void years() {
    RiverDiggers x = stair();
    due(15, "year(-1)", x.year(-1), BAD);
    due(15, "year(LOW)", x.year(LOW), BAD);
    due(15, "year(17576)", x.year(17576), BAD);
    due(15, "year(TOP)", x.year(TOP), BAD);
    due(15, "year(17575)", x.year(17575), STATE);
    due(15, "year(1)", x.year(1), STATE);
    due(15, "year(26)", x.year(26), STATE);
    due(15, "year(676)", x.year(676), STATE);
    due(15, "year(2 + 26)", x.year(28), STATE);
    due(15, "year(25)", x.year(25), STATE);
    due(16, "would(2, 0)", x.would(2, 0), 4);
    due(16, "would(1, 0)", x.would(1, 0), STATE);
    due(16, "would(-1, 0)", x.would(-1, 0), BAD);
    due(16, "would(17576, 0)", x.would(17576, 0), BAD);
    due(16, "would(0, 1)", x.would(0, 1), BAD);
    due(16, "would(0, -1)", x.would(0, -1), BAD);
    due(16, "would(1, 1)", x.would(1, 1), BAD);
    due(6, "rule(6)", x.rule(6), 0);
    due(15, "year(2)", x.year(2), 5);
    due(15, "cell(1, 0)", x.cell(1, 0), 9);
    due(15, "rule(6)", x.rule(6), 1);
    // The cell of 9 parts is as high as the next one, then lower: there the river ends.
    due(15, "year(2)", x.year(2), 2);
    due(15, "cell(1, 0)", x.cell(1, 0), 6);
    x.law(2);
    due(15, "year(2) by law 2", x.year(2), STATE);
    due(15, "year(12) by law 2", x.year(12), STATE);
    due(15, "year(7) by law 2", x.year(7), 2);
    x.law(1);
    due(15, "year(12) by law 1", x.year(12), STATE);
    due(15, "year(2) by law 1", x.year(2), 2);
    due(15, "year(0)", x.year(0), 2);
    due(6, "rule(6)", x.rule(6), 5);
    RiverDiggers y = twoFields();
    due(16, "would(1, 0)", y.would(1, 0), 1);
    due(16, "would(1, 1)", y.would(1, 1), 0);
    due(16, "would(79, 0)", y.would(79, 0), 0);
    due(16, "would(79, 1)", y.would(79, 1), 2);
    due(16, "cell(0, 0) behind would", y.cell(0, 0), 3);
    due(15, "year(79): all cut together", y.year(79), 2);
    due(15, "cell(0, 0)", y.cell(0, 0), 0);
    due(15, "cell(2, 0)", y.cell(2, 0), 0);
    due(15, "year(1) of nothing left", y.year(1), STATE);
    RiverDiggers z = of("plain 2 2;row 0 1 1;row 1 1 1;farm 1;farm 1;farm 1;ground 2 3;ground 1 1;ground 0 0;");
    due(15, "year(1 + 26 * 2 + 676 * 4)", z.year(1 + 52 + 2704), 3);
    int[] left = {0, 0, 3, 0};
    for (int c = 0; c < 4; c++) due(15, "cell(" + c + ", 0)", z.cell(c, 0), left[c]);
  }

  private static void silt() {
    RiverDiggers x = silting();
    due(15, "year(0)", x.year(0), 4);
    int[] first = {9, 5, 2, 2, 27, 27, 27, 27};
    for (int c = 0; c < 8; c++) due(15, "cell(" + c + ", 0)", x.cell(c, 0), first[c]);
    due(15, "year(0)", x.year(0), 3);
    int[] second = {9, 4, 1, 4, 27, 27, 27, 27};
    for (int c = 0; c < 8; c++) due(15, "cell(" + c + ", 0)", x.cell(c, 0), second[c]);
    due(15, "year(0) of 3 cells", x.year(0), 3);
    for (int c = 0; c < 8; c++) due(15, "cell(" + c + ", 0)", x.cell(c, 0), second[c]);
    due(37, "count(6)", x.count(6), 126);
    // Cuts come ahead of silt, and it goes by the bed behind them.
    RiverDiggers y = of("plain 5 2;row 0 5 4 3 2 3;row 1 9 9 9 9 9;farm 1;ground 0 4;silt;");
    due(9, "count(0)", y.count(0), 4);
    due(15, "year(5)", y.year(5), 4);
    int[] cut = {15, 11, 8, 5, 9};
    for (int c = 0; c < 4; c++) due(15, "cell(" + c + ", 0)", y.cell(c, 0), cut[c]);
    due(15, "cell(4, 0)", y.cell(4, 0), 9);
  }

  private static void told() {
    RiverDiggers x = bank(4);
    due(17, "tell(-1)", x.tell(-1), BAD);
    due(17, "tell(17576)", x.tell(17576), BAD);
    due(19, "judge(0) of none", x.judge(0), NONE);
    for (int i = 1; i <= 4; i++) due(17, "tell(3)", x.tell(3), i);
    due(19, "judge(0)", x.judge(0), NONE);
    due(19, "judge(1)", x.judge(1), NONE);
    due(17, "tell(3)", x.tell(3), 5);
    due(19, "judge(0)", x.judge(0), 4);
    due(19, "judge(1)", x.judge(1), 0);
    due(19, "judge(2)", x.judge(2), BAD);
    due(19, "judge(-1)", x.judge(-1), BAD);
    due(17, "tell(17575)", x.tell(17575), 6);
    due(17, "tell(0)", x.tell(0), FULL);
    due(17, "tell(-1)", x.tell(-1), BAD);
    due(37, "count(1)", x.count(1), 6);
    due(18, "drop(7)", x.drop(7), BAD);
    due(18, "drop(-1)", x.drop(-1), BAD);
    due(18, "drop(6)", x.drop(6), 6);
    due(18, "drop(1)", x.drop(1), 6);
    due(18, "drop(2)", x.drop(2), BAD);
    due(17, "tell(26)", x.tell(26), 2);
    due(19, "judge(0)", x.judge(0), 1);
    due(19, "judge(1) of no farm", x.judge(1), NONE);
    due(18, "drop(0)", x.drop(0), 2);
    due(17, "tell(26 + 1)", x.tell(27), 1);
    due(19, "judge(0)", x.judge(0), 0);
    due(19, "judge(1)", x.judge(1), 0);
    due(19, "cell(2, 0)", x.cell(2, 0), 12);
    RiverDiggers y = twoFields();
    y.tell(1);
    y.tell(79);
    due(19, "judge(0)", y.judge(0), 1);
    due(19, "judge(1)", y.judge(1), 0);
    y.drop(0);
    y.tell(78);
    y.tell(79);
    due(19, "judge(1)", y.judge(1), 1);
    y.year(1);
    due(19, "judge(1) from now on", y.judge(1), 0);
    y.drop(1);
    due(19, "judge(0) from now on", y.judge(0), NONE);
  }

  private static void alone() {
    int[] fewest = {0, 0, 0, 1, 2, 3, NONE, NONE};
    for (int yards = 0; yards < 8; yards++) {
      RiverDiggers x = bank(yards);
      due(20, "alone(0, 2, 0) of " + yards, x.alone(0, 2, 0), fewest[yards]);
      for (int i = 0; i < 3; i++) {
        due(20, "alone(0, 2, 1" + i + ") of " + yards, x.alone(0, 2, 10 + i), i < fewest[yards] ? 2 : NONE);
      }
      due(20, "cell(2, 0)", x.cell(2, 0), 3 * yards);
    }
    RiverDiggers x = twoFields();
    due(20, "alone(0, 0, 0)", x.alone(0, 0, 0), 1);
    due(20, "alone(0, 0, 10)", x.alone(0, 0, 10), 0);
    due(20, "alone(1, 0, 0): others cut none", x.alone(1, 0, 0), NONE);
    due(20, "alone(1, 2, 0)", x.alone(1, 2, 0), 0);
    due(20, "alone(1, 2, 10)", x.alone(1, 2, 10), NONE);
    int[] bad = {-1, 2, LOW, TOP};
    for (int v : bad) due(20, "alone(" + v + ", 0, 0)", x.alone(v, 0, 0), BAD);
    due(20, "alone(0, 6, 0)", x.alone(0, 6, 0), BAD);
    due(20, "alone(0, -1, 0)", x.alone(0, -1, 0), BAD);
    int[] what = {-1, 1, 9, 13, LOW, TOP};
    for (int v : what) due(20, "alone(0, 0, " + v + ")", x.alone(0, 0, v), BAD);
    RiverDiggers last = of("plain 5 5;row 3 9 9 9 9 9;row 4 9 9 9 2 3;spring 23;farm 1;ground 0 24;");
    due(20, "alone(0, 24, 0)", last.alone(0, 24, 0), 1);
    due(20, "alone(0, 24, 10)", last.alone(0, 24, 10), 24);
    due(15, "year(25)", last.year(25), 2);
    due(15, "cell(24, 0)", last.cell(24, 0), 6);
    // Silt alone lowers cells 1 to 3 of the bed: the first row by options is to wait, then to cut.
    RiverDiggers y = of("plain 3 3;row 0 5 4 4;row 1 4 3 4;row 2 4 2 1;farm 2;farm 3;ground 0 1 2 5;ground 1 3 6 7;silt;");
    due(20, "alone(1, 6, 0)", y.alone(1, 6, 0), 3);
    due(20, "alone(1, 6, 10)", y.alone(1, 6, 10), 25);
    due(20, "alone(1, 6, 11)", y.alone(1, 6, 11), 6);
  }

  private static void together() {
    RiverDiggers x = twoFields();
    due(21, "together(0, 0)", x.together(0, 0), 1);
    due(21, "together(0, 1)", x.together(0, 1), 1);
    due(21, "together(2, 0)", x.together(2, 0), 0);
    due(21, "together(2, 1)", x.together(2, 1), 0);
    due(21, "together(3, 0)", x.together(3, 0), NONE);
    due(21, "together(3, 1)", x.together(3, 1), NONE);
    due(21, "together(6, 0)", x.together(6, 0), BAD);
    due(21, "together(-1, 0)", x.together(-1, 0), BAD);
    due(21, "together(0, 2)", x.together(0, 2), BAD);
    due(21, "together(0, -1)", x.together(0, -1), BAD);
    // The way west is a yard too high in two places, of two farms; a third may not help.
    RiverDiggers y = of("plain 4 2;row 0 2 2 1 9;row 1 9 9 9 9;spring 2;farm 1;farm 1;farm 1;ground 2 1;ground 0 0;ground 1 4;");
    due(21, "together(0, 0)", y.together(0, 0), 2);
    due(21, "together(0, 1)", y.together(0, 1), 1 + 676 * 2);
    due(21, "together(1, 0)", y.together(1, 0), 1);
    due(21, "together(1, 1)", y.together(1, 1), 676 * 2);
    // Fewer cuts go ahead of a smaller number: the first two farms could also do it, in year 30.
    RiverDiggers z = of("plain 3 3;row 0 1 3 9;row 1 3 2 9;row 2 0 9 9;spring 4;farm 1;farm 1;farm 1;ground 0 3;ground 1 0;ground 2 1;");
    due(21, "together(0, 0)", z.together(0, 0), 1);
    due(21, "together(0, 1)", z.together(0, 1), 676 * 2);
    z.dam(1, 27);
    due(21, "together(0, 0)", z.together(0, 0), 2);
    due(21, "together(0, 1)", z.together(0, 1), 30);
  }

  private static void themselves() {
    RiverDiggers x = twoFields();
    due(22, "selfish(0)", x.selfish(0), 0);
    due(22, "selfish(10)", x.selfish(10), 0);
    due(22, "selfish(11)", x.selfish(11), 2);
    int[] bad = {-1, 1, 9, 12, 13, LOW, TOP};
    for (int v : bad) due(22, "selfish(" + v + ")", x.selfish(v), BAD);
    due(23, "rests(0)", x.rests(0), 2);
    due(23, "rests(1)", x.rests(1), 78);
    due(23, "rests(2)", x.rests(2), BAD);
    due(23, "rests(-1)", x.rests(-1), BAD);
    due(24, "breaks(0)", x.breaks(0), 1);
    due(24, "breaks(1)", x.breaks(1), 2);
    due(24, "breaks(78)", x.breaks(78), 0);
    due(24, "breaks(79)", x.breaks(79), 0);
    due(24, "breaks(2)", x.breaks(2), STATE);
    due(24, "breaks(676)", x.breaks(676), STATE);
    due(24, "breaks(-1)", x.breaks(-1), BAD);
    due(24, "breaks(17576)", x.breaks(17576), BAD);
    // Who chooses first knows what the other will do.
    x.dam(2, 2);
    due(22, "selfish(0) with nothing to cut in the east", x.selfish(0), 1);
    due(22, "selfish(10)", x.selfish(10), 1);
    due(22, "selfish(11)", x.selfish(11), 0);
    RiverDiggers q = quarrel();
    due(23, "rests(0)", q.rests(0), 0);
    due(23, "rests(1)", q.rests(1), NONE);
    due(22, "selfish(0)", q.selfish(0), 0);
    due(24, "breaks(0)", q.breaks(0), 1);
    due(24, "breaks(1)", q.breaks(1), 3);
    due(24, "breaks(4)", q.breaks(4), 2);
    due(24, "breaks(4 + 26 * 2)", q.breaks(56), 1);
    due(24, "breaks(1 + 26 * 3)", q.breaks(79), 1);
    RiverDiggers n = new RiverDiggers();
    due(22, "selfish(0) of no farms", n.selfish(0), 0);
    due(22, "selfish(10) of no farms", n.selfish(10), BAD);
    due(23, "rests(0) of no farms", n.rests(0), 1);
    due(23, "rests(1) of no farms", n.rests(1), 0);
    due(24, "breaks(0) of no farms", n.breaks(0), 0);
  }

  private static void quiet() {
    RiverDiggers x = silting();
    due(25, "stands(3)", x.stands(3), 1);
    due(25, "stands(2)", x.stands(2), 20);
    due(25, "stands(0)", x.stands(0), 20);
    due(25, "stands(4)", x.stands(4), STATE);
    due(25, "stands(8)", x.stands(8), BAD);
    due(25, "stands(-1)", x.stands(-1), BAD);
    due(26, "again(0)", x.again(0), 2);
    due(26, "again(1)", x.again(1), 1);
    due(26, "again(2)", x.again(2), BAD);
    due(26, "again(-1)", x.again(-1), BAD);
    due(26, "rule(6)", x.rule(6), 0);
    x.year(0);
    due(25, "stands(3)", x.stands(3), 0);
    due(26, "again(0)", x.again(0), 1);
    x.year(0);
    due(25, "stands(3)", x.stands(3), STATE);
    due(26, "again(0)", x.again(0), 0);
    x.silt(false);
    due(26, "again(0) without silt", x.again(0), 0);
    due(26, "again(1) without silt", x.again(1), 1);
    // Each quiet year brings what comes again a year nearer; it is found from the 60th year on.
    RiverDiggers y = new RiverDiggers();
    int[] steep = {97, 99, 1, 96, 98, 2, 94, 3, 0};
    for (int c = 0; c < 9; c++) y.dam(c, steep[c]);
    y.silt(true);
    due(26, "again(0) of the steep plain", y.again(0), NONE);
    due(26, "again(1) of the steep plain", y.again(1), NONE);
    int waited = 0;
    while (waited < 30 && y.again(0) == NONE) { y.year(0); waited++; }
    for (int left = 59; left >= 0; left--) {
      due(26, "again(0), " + left + " ahead", y.again(0), left);
      due(26, "again(1), " + left + " ahead", y.again(1), 1);
      y.year(0);
    }
  }

  private static void luck() {
    RiverDiggers x = twoFields();
    due(27, "odds(0, 0)", x.odds(0, 0), 1);
    due(27, "odds(0, 1)", x.odds(0, 1), 4);
    due(27, "odds(2, 0)", x.odds(2, 0), 3);
    due(27, "odds(2, 1)", x.odds(2, 1), 4);
    due(27, "odds(1, 0)", x.odds(1, 0), 1);
    due(27, "odds(1, 1)", x.odds(1, 1), 1);
    due(27, "odds(3, 0)", x.odds(3, 0), 0);
    due(27, "odds(3, 1)", x.odds(3, 1), 1);
    due(27, "odds(6, 0)", x.odds(6, 0), BAD);
    due(27, "odds(-1, 1)", x.odds(-1, 1), BAD);
    due(27, "odds(0, 2)", x.odds(0, 2), BAD);
    due(27, "odds(0, -1)", x.odds(0, -1), BAD);
    x.dam(2, 2);
    due(27, "odds(2, 0) in lowest terms", x.odds(2, 0), 1);
    due(27, "odds(2, 1) in lowest terms", x.odds(2, 1), 2);
    RiverDiggers q = quarrel();
    due(27, "odds(0, 0)", q.odds(0, 0), 4);
    due(27, "odds(0, 1)", q.odds(0, 1), 9);
    due(27, "odds(3, 0)", q.odds(3, 0), 2);
    due(27, "odds(3, 1)", q.odds(3, 1), 9);
  }

  private static void seen() {
    RiverDiggers x = twoFields();
    due(30, "fits(0) of nothing seen", x.fits(0), 4);
    due(30, "fits(1) of nothing seen", x.fits(1), 0);
    due(30, "fits(2) of nothing seen", x.fits(2), 0);
    due(30, "fits(3) of nothing seen", x.fits(3), 0);
    due(28, "see(0, true)", x.see(0, true), 1);
    due(30, "fits(0)", x.fits(0), 1);
    due(30, "fits(1)", x.fits(1), 1);
    due(30, "fits(2)", x.fits(2), 1);
    due(30, "fits(3)", x.fits(3), 2);
    due(28, "see(0, false)", x.see(0, false), 2);
    due(30, "fits(0) of what can not be", x.fits(0), 0);
    for (int what = 1; what < 4; what++) due(30, "fits(" + what + ") of what can not be", x.fits(what), NONE);
    due(30, "fits(4)", x.fits(4), BAD);
    due(30, "fits(-1)", x.fits(-1), BAD);
    due(29, "forget(3)", x.forget(3), BAD);
    due(29, "forget(-1)", x.forget(-1), BAD);
    due(29, "forget(0)", x.forget(0), 2);
    due(29, "forget(1)", x.forget(1), BAD);
    due(28, "see(0, false)", x.see(0, false), 1);
    due(30, "fits(0)", x.fits(0), 3);
    due(30, "fits(1)", x.fits(1), 0);
    due(30, "fits(2)", x.fits(2), 0);
    due(30, "fits(3)", x.fits(3), 0);
    due(28, "see(6, true)", x.see(6, true), BAD);
    due(28, "see(-1, true)", x.see(-1, true), BAD);
    for (int i = 2; i <= 8; i++) due(28, "see(5, false)", x.see(5, false), i);
    due(28, "see(5, false)", x.see(5, false), FULL);
    due(28, "see(6, false)", x.see(6, false), BAD);
    due(37, "count(2)", x.count(2), 8);
    due(30, "fits(0)", x.fits(0), 3);
    due(29, "forget(8)", x.forget(8), 8);
    due(29, "forget(7)", x.forget(7), 8);
    due(37, "count(2)", x.count(2), 7);
    RiverDiggers n = new RiverDiggers();
    due(30, "fits(2) of no farms", n.fits(2), 0);
    due(30, "fits(3) of no farms", n.fits(3), 0);
    due(30, "fits(0) of no farms", n.fits(0), 1);
  }

  private static void images() {
    RiverDiggers x = twoFields();
    due(31, "keep(2)", x.keep(2), BAD);
    due(31, "keep(-1)", x.keep(-1), BAD);
    due(32, "back(2)", x.back(2), BAD);
    due(32, "back(-1)", x.back(-1), BAD);
    due(32, "back(1)", x.back(1), STATE);
    x.year(0);
    x.tell(3);
    x.tell(4);
    x.see(0, true);
    due(31, "keep(1)", x.keep(1), 0);
    due(37, "count(3)", x.count(3), 1);
    due(32, "back(0)", x.back(0), STATE);
    due(31, "keep(1)", x.keep(1), 1);
    due(37, "count(3)", x.count(3), 1);
    due(31, "fits(0)", x.fits(0), 1);
    x.year(1);
    x.law(2);
    x.silt(true);
    x.move(5);
    x.price(1, 8);
    x.drop(0);
    x.tell(1);
    x.forget(0);
    x.see(5, false);
    x.see(4, false);
    due(31, "keep(0)", x.keep(0), 0);
    due(37, "count(3)", x.count(3), 2);
    due(32, "back(1)", x.back(1), 1);
    int[] rules = {3, 2, 1, 2, 0, 0, 1};
    for (int i = 0; i < 7; i++) due(32, "rule(" + i + ")", x.rule(i), rules[i]);
    int[] heights = {3, 6, 3, 9, 9, 9};
    for (int c = 0; c < 6; c++) due(32, "cell(" + c + ", 0)", x.cell(c, 0), heights[c]);
    due(32, "farm(1, 0)", x.farm(1, 0), 2);
    due(32, "bed(0)", x.bed(0), 1);
    due(32, "bed(1)", x.bed(1), 2);
    due(32, "count(1)", x.count(1), 2);
    due(32, "judge(0)", x.judge(0), 0);
    due(32, "count(2)", x.count(2), 1);
    due(32, "fits(1)", x.fits(1), 1);
    due(32, "fits(0)", x.fits(0), 1);
    due(32, "back(0)", x.back(0), 2);
    due(32, "cell(0, 0)", x.cell(0, 0), 0);
    due(32, "rule(4)", x.rule(4), 2);
    due(32, "rule(5)", x.rule(5), 1);
    due(32, "rule(2)", x.rule(2), 5);
    due(32, "farm(1, 0)", x.farm(1, 0), 8);
    due(32, "count(1)", x.count(1), 1);
    due(32, "count(2)", x.count(2), 2);
    x.dam(0, 50);
    x.tell(9);
    due(32, "back(0) again", x.back(0), 2);
    due(32, "cell(0, 0)", x.cell(0, 0), 0);
    due(32, "count(1)", x.count(1), 1);
  }

  private static void sheets() {
    RiverDiggers x = new RiverDiggers();
    due(33, "sheet(-1, 0, 1)", x.sheet(-1, 0, 1), BAD);
    due(33, "sheet(4, 0, 1)", x.sheet(4, 0, 1), BAD);
    due(33, "sheet(0, -1, 1)", x.sheet(0, -1, 1), BAD);
    due(33, "sheet(0, 3, 1)", x.sheet(0, 3, 1), BAD);
    due(33, "sheet(0, 0, 41)", x.sheet(0, 0, 41), BAD);
    due(33, "sheet(0, 0, TOP)", x.sheet(0, 0, TOP), BAD);
    due(33, "sheet(0, 3, -1)", x.sheet(0, 3, -1), BAD);
    due(33, "sheet(0, 0, -1)", x.sheet(0, 0, -1), -14);
    due(33, "sheet(0, 0, LOW)", x.sheet(0, 0, LOW), -14);
    due(37, "count(5)", x.count(5), NONE);
    due(33, "sheet(0, 0, 40)", x.sheet(0, 0, 40), 1);
    due(37, "count(5)", x.count(5), 40);
    due(33, "sheet(0, 0, -1)", x.sheet(0, 0, -1), -14);
    due(37, "count(5)", x.count(5), 40);
    due(34, "lay(-1, 0, 0)", x.lay(-1, 0, 0), BAD);
    due(34, "lay(4, 0, 0)", x.lay(4, 0, 0), BAD);
    due(34, "lay(1, 0, 0)", x.lay(1, 0, 0), -11);
    due(34, "lay(1, -1, 0)", x.lay(1, -1, 0), -11);
    due(34, "lay(0, -1, 0)", x.lay(0, -1, 0), -12);
    due(34, "lay(0, 40, 0)", x.lay(0, 40, 0), -12);
    due(34, "lay(0, TOP, 0)", x.lay(0, TOP, 0), -12);
    due(34, "lay(0, 39, 7)", x.lay(0, 39, 7), 1);
    due(33, "sheet(0, 2, 0)", x.sheet(0, 2, 0), 1);
    due(37, "count(5)", x.count(5), 0);
    due(34, "lay(0, 0, 0)", x.lay(0, 0, 0), -12);
    // Lowest bits: 256 is 0 as a byte, 65536 as a short; 128 is below 0 as a byte, 40000 as a short.
    int[][] lays = {{0, 256, 1}, {0, 128, -20}, {0, 255, -20}, {1, 65536, 1}, {1, 40000, -20}, {1, 256, -20}, {2, 65536, -20}, {2, 0, 1}, {0, 513, -20}};
    for (int[] l : lays) {
      RiverDiggers y = new RiverDiggers();
      y.sheet(3, l[0], 1);
      y.lay(3, 0, l[1]);
      due(34, "read of " + l[1] + " on lane " + l[0], y.read(3, l[0], 0, 1), l[2]);
    }
    // A new row has nothing of the old one.
    RiverDiggers z = new RiverDiggers();
    z.sheet(2, 1, 3);
    z.lay(2, 1, 9);
    due(35, "read(2, 1, 0, 3)", z.read(2, 1, 0, 3), -21);
    z.sheet(2, 1, 3);
    due(33, "read(2, 1, 0, 3)", z.read(2, 1, 0, 3), 3);
  }

  private static void reading() {
    RiverDiggers x = bank(4);
    x.sheet(1, 1, 5);
    x.lay(1, 0, 3);
    x.lay(1, 2, 3);
    int[] bad = {-1, 4, LOW, TOP};
    for (int v : bad) due(35, "read(" + v + ", 1, 0, 1)", x.read(v, 1, 0, 1), BAD);
    due(35, "read(1, 3, 0, 1)", x.read(1, 3, 0, 1), BAD);
    due(35, "read(1, -1, 0, 1)", x.read(1, -1, 0, 1), BAD);
    due(35, "read(1, 1, 0, 21)", x.read(1, 1, 0, 21), BAD);
    due(35, "read(1, 1, 0, -1)", x.read(1, 1, 0, -1), BAD);
    due(35, "read(1, 1, 0, 3)", x.read(1, 1, 0, 3), 3);
    due(36, "torn()", x.torn(), 0);
    due(35, "cell(2, 0)", x.cell(2, 0), 6);
    due(35, "rule(6)", x.rule(6), 3);
    due(35, "count(0)", x.count(0), 2);
    // Those ahead of the end of the row go.
    due(35, "read(1, 1, 2, 20)", x.read(1, 1, 2, 20), 3);
    due(36, "torn()", x.torn(), 2);
    due(35, "cell(2, 0)", x.cell(2, 0), 3);
    due(35, "rule(6)", x.rule(6), 6);
    // One that can not be: none goes, and the latest read that came to an end stays.
    due(35, "read(1, 1, 0, 3)", x.read(1, 1, 0, 3), -22);
    due(36, "torn()", x.torn(), 2);
    due(35, "cell(2, 0)", x.cell(2, 0), 3);
    due(35, "rule(6)", x.rule(6), 6);
    due(35, "read(1, 1, 5, 0)", x.read(1, 1, 5, 0), 0);
    due(36, "torn()", x.torn(), 0);
    due(35, "read(1, 2, 0, 1)", x.read(1, 2, 0, 1), 0);
    due(36, "torn()", x.torn(), 3);
    due(35, "read(1, 1, 0, 21)", x.read(1, 1, 0, 21), BAD);
    due(36, "torn() behind BAD", x.torn(), 3);
    due(35, "read(0, 0, 0, 1)", x.read(0, 0, 0, 1), 0);
    due(36, "torn()", x.torn(), 1);
    due(35, "read(1, 1, -1, 2)", x.read(1, 1, -1, 2), 0);
    due(36, "torn()", x.torn(), 2);
    due(35, "read(1, 1, TOP, 2)", x.read(1, 1, TOP, 2), 0);
    due(36, "torn()", x.torn(), 2);
    due(35, "read(1, 1, LOW, 2)", x.read(1, 1, LOW, 2), 0);
    due(36, "torn()", x.torn(), 2);
    due(35, "rule(6)", x.rule(6), 6);
    // A number that no year has is refused like a year that can not be, if it is met ahead of the row's end.
    x.lay(1, 4, -1);
    due(35, "read(1, 1, 3, 9)", x.read(1, 1, 3, 9), -21);
    due(36, "torn()", x.torn(), 2);
    due(35, "rule(6)", x.rule(6), 6);
    due(35, "read(1, 1, 3, 1)", x.read(1, 1, 3, 1), 1);
    due(35, "rule(6)", x.rule(6), 7);
    // What was asked ahead of a read is asked anew behind it.
    RiverDiggers y = twoFields();
    due(35, "odds(0, 1)", y.odds(0, 1), 4);
    y.sheet(0, 0, 1);
    y.lay(0, 0, 1);
    due(35, "read(0, 0, 0, 1)", y.read(0, 0, 0, 1), 1);
    due(35, "odds(0, 1)", y.odds(0, 1), 2);
  }

  /** A read of no years finds no fault, whatever the sheet is; one of a year finds the lane ahead of the cell. */
  private static void readingNone() {
    int[] places = {0, 1, 2, -1, LOW, TOP};
    for (int of = -1; of < 3; of++) {
      for (int size = 0; size < 3; size += 2) {
        for (int lane = 0; lane < 3; lane++) {
          RiverDiggers x = bank(4);
          if (of >= 0) x.sheet(2, of, size);
          for (int f : places) {
            String call = "read(2, " + lane + ", " + f + ", n) of " + size + " cells of lane " + of;
            int due = of < 0 ? 1 : of != lane ? 3 : f < 0 || f >= size ? 2 : 0;
            due(35, call + ", n 1", x.read(2, lane, f, 1), due == 0 ? 1 : 0);
            due(36, call + ", n 1, torn()", x.torn(), due);
            due(35, call + ", n 0", x.read(2, lane, f, 0), 0);
            due(36, call + ", n 0, torn()", x.torn(), 0);
          }
          due(35, "rule(6)", x.rule(6), of == lane ? size : 0);
        }
      }
    }
  }

  private static void lastYear() {
    RiverDiggers x = bank(9);
    x.sheet(0, 0, 40);
    for (int i = 0; i < 49; i++) x.read(0, 0, i % 21, 20);
    due(35, "rule(6)", x.rule(6), 980);
    due(35, "read to the 1000th", x.read(0, 0, 0, 20), -39);
    due(35, "rule(6)", x.rule(6), 980);
    due(35, "read to the 999th", x.read(0, 0, 0, 19), 19);
    due(35, "rule(6)", x.rule(6), 999);
    due(15, "year(0)", x.year(0), FULL);
    due(15, "year(3)", x.year(3), FULL);
    due(15, "year(1)", x.year(1), STATE);
    due(15, "year(-1)", x.year(-1), BAD);
    due(35, "read(0, 0, 0, 1)", x.read(0, 0, 0, 1), -20);
    due(35, "read(0, 0, 0, 0)", x.read(0, 0, 0, 0), 0);
    due(16, "would(3, 0)", x.would(3, 0), 0);
    due(19, "tell(3)", x.tell(3), 1);
    due(19, "judge(0)", x.judge(0), NONE);
    due(25, "stands(0)", x.stands(0), 20);
    due(6, "rule(6)", x.rule(6), 999);
    due(31, "keep(0)", x.keep(0), 0);
    due(32, "back(0)", x.back(0), 999);
  }

  private static void counting() {
    RiverDiggers x = stair();
    due(37, "count(0)", x.count(0), 5);
    due(37, "count(6)", x.count(6), 45 + 270);
    due(37, "count(7)", x.count(7), 4);
    x.law(2);
    due(37, "count(7) by law 2", x.count(7), 2);
    due(37, "count(8)", x.count(8), BAD);
    due(37, "count(-1)", x.count(-1), BAD);
    due(37, "count(LOW)", x.count(LOW), BAD);
    due(37, "count(TOP)", x.count(TOP), BAD);
    due(37, "count(7)", quarrel().count(7), 9);
    RiverDiggers y = of("plain 5 5;row 0 1 1 1 1 1;row 1 1 1 1 1 1;row 2 1 1 1 1 1;row 3 1 1 1 1 1;row 4 1 1 1 1 1;"
        + "farm 1;farm 1;farm 1;ground 0 0 1 2 3 4 5 6 7;ground 1 8 9 10 11 12 13 14 15;ground 2 16 17 18 19 20 21 22 23;");
    due(37, "count(7) of the most there can be", y.count(7), 729);
    due(30, "fits(0) of the most there can be", y.fits(0), 729);
    due(37, "count(0)", y.count(0), 25);
    due(24, "breaks(25) of the most there can be", y.breaks(25), STATE);
    // The least of the years that were asked about, and can be no more.
    y.dam(0, 2);
    due(24, "fits(0) without cell 0", y.fits(0), 648);
    for (int option = 1; option < 26; option++) {
      due(24, "breaks(" + option + ")", y.breaks(option) == STATE ? 1 : 0, option > 1 && option < 9 ? 0 : 1);
    }
  }
}
