import java.util.ArrayList;
import java.util.List;

/**
 * What is asked of all years that can be (promises 16 and 21 to 24, 27, 30, 37), beside what is found by letting each of
 * them go in an object of its own.
 */
public final class AllYearsTest extends Due {
  private static final int[] PLACE = {1, 26, 676};
  private static final String[] PLAINS = {
    "",
    "farm 3;farm 2;farm 1;",
    "row 0 5 4 4;row 1 4 3 4;row 2 4 2 1;farm 2;farm 3;ground 0 1 2 5;ground 1 3 6 7;silt;",
    "row 0 5 4 4;row 1 4 3 4;row 2 4 2 1;farm 2;farm 3;farm 9;ground 0 1 2 5;ground 1 3 6;ground 2 7 8;law 1;",
    "row 0 9 2 9;row 1 2 2 2;row 2 9 2 9;spring 4;farm 1;farm 1;farm 1;ground 0 5 3;ground 1 1;ground 2 7 8;",
    "row 0 9 2 9;row 1 2 2 2;row 2 9 2 9;spring 4;farm 9;farm 1;farm 5;ground 0 5 3 4;ground 1 1 0;ground 2 7 8;law 2;",
    "plain 3 2;row 0 1 2 1;row 1 2 3 3;spring 4;farm 1;farm 1;ground 0 3 0;ground 1 1 2;",
    "plain 3 2;row 0 1 2 1;row 1 2 3 3;spring 4;farm 1;farm 1;farm 1;ground 1 3 0;ground 2 1 2;",
    "plain 4 4;row 0 6 5 4 4;row 1 5 5 3 3;row 2 5 2 4 2;row 3 4 1 1 1;farm 4;farm 3;farm 2;ground 0 1 4 5 9;ground 1 2 6 10 13;ground 2 8 11 14;silt;law 1;",
    "plain 5 2;row 0 3 3 3 3 3;row 1 4 3 4 3 4;spring 2;farm 2;farm 2;farm 2;ground 0 0 1 5 6;ground 1 2 7;ground 2 3 4 8 9;silt;",
    "plain 5 5;row 0 1 1 1 1 1;row 1 1 1 1 1 1;row 2 1 1 1 1 1;row 3 1 1 1 1 1;row 4 1 1 1 1 1;farm 1;farm 1;farm 1;"
        + "ground 0 0 1 2 3 4 5 6 7;ground 1 8 9 10 11 12 13 14 15;ground 2 16 17 18 19 20 21 22 23;",
    "plain 5 5;row 0 9 8 7 6 5;row 1 8 7 6 5 4;row 2 7 6 5 4 3;row 3 6 5 4 3 2;row 4 5 4 3 2 1;farm 3;farm 2;farm 1;silt;"
        + "ground 0 24 23 19 1 7 2 10 5;ground 1 18 22 14 3 6 11 15 20;ground 2 12 13 17 8 4 9 16 21;"
  };

  /** The years that can be, by rising numbers; the bed behind each, and what each farm has then. */
  private static List<Integer> years;
  private static List<Integer> beds;
  private static List<int[]> have;
  private static int farms, cells;

  public static void main(String[] args) {
    for (String t : PLAINS) {
      lookAt(t);
      counted(t);
      eachYear(t);
      themselves(t);
      eachCell(t);
      seen(t);
    }
    staleYears();
    finish();
  }

  private static void lookAt(String t) {
    RiverDiggers now = of(t);
    farms = now.rule(3);
    cells = now.rule(0) * now.rule(1);
    years = new ArrayList<>();
    beds = new ArrayList<>();
    have = new ArrayList<>();
    int[] may = new int[3];
    for (int f = 0; f < farms; f++) may[f] = now.farm(f, 3);
    for (int y = 0; y <= 17575; y++) {
      boolean can = true;
      for (int f = 0; f < 3; f++) {
        int option = y / PLACE[f] % 26;
        can &= option == 0 || (may[f] >> option - 1 & 1) == 1;
      }
      if (!can) continue;
      RiverDiggers x = of(t);
      int length = x.year(y), bits = 0;
      for (int i = 0; i < length; i++) bits |= 1 << x.bed(i);
      int[] has = new int[farms];
      for (int f = 0; f < farms; f++) has[f] = x.farm(f, 2);
      years.add(y);
      beds.add(bits);
      have.add(has);
    }
  }

  private static void counted(String t) {
    due(37, "count(7) of " + t, of(t).count(7), years.size());
    due(30, "fits(0) of " + t, of(t).fits(0), years.size());
  }

  private static int breakers(int i) {
    int bits = 0;
    for (int f = 0; f < farms; f++) {
      int own = years.get(i) / PLACE[f] % 26;
      for (int option = 0; option < 26; option++) {
        int j = years.indexOf(years.get(i) + (option - own) * PLACE[f]);
        if (j >= 0 && have.get(j)[f] > have.get(i)[f]) bits |= 1 << f;
      }
    }
    return bits;
  }

  private static void eachYear(String t) {
    int rests = 0, least = NONE;
    RiverDiggers x = of(t);
    int calls = 0;
    for (int i = 0; i < years.size(); i++) {
      if (calls > 400) {
        x = of(t);
        calls = 0;
      }
      int y = years.get(i), bits = breakers(i);
      due(24, "breaks(" + y + ") of " + t, x.breaks(y), bits);
      for (int f = 0; f < farms; f++) due(16, "would(" + y + ", " + f + ") of " + t, x.would(y, f), have.get(i)[f]);
      calls += 1 + farms;
      if (bits == 0) {
        rests++;
        if (least == NONE) least = y;
      }
    }
    due(23, "rests(0) of " + t, of(t).rests(0), rests);
    due(23, "rests(1) of " + t, of(t).rests(1), least);
  }

  /** The year that comes of it, if the farms from f on choose, each the first of those by which it has most. */
  private static int chosen(int f, int y) {
    if (f == farms) return y;
    int best = -1, most = -1;
    for (int option = 0; option < 26; option++) {
      if (!years.contains(option * PLACE[f])) continue;
      int end = chosen(f + 1, y + option * PLACE[f]), has = have.get(years.indexOf(end))[f];
      if (has > most) {
        most = has;
        best = end;
      }
    }
    return best;
  }

  private static void themselves(String t) {
    int y = chosen(0, 0);
    due(22, "selfish(0) of " + t, of(t).selfish(0), y);
    for (int f = 0; f < 4; f++) due(22, "selfish(1" + f + ") of " + t, of(t).selfish(10 + f), f < farms ? have.get(years.indexOf(y))[f] : BAD);
  }

  private static int cuts(int y) {
    int cuts = 0;
    for (int place : PLACE) if (y / place % 26 > 0) cuts++;
    return cuts;
  }

  private static int divisor(int a, int b) { return b == 0 ? a : divisor(b, a % b); }

  private static void eachCell(String t) {
    for (int c = 0; c < cells; c++) {
      int fewest = 9, least = NONE, hits = 0;
      for (int i = 0; i < years.size(); i++) {
        if ((beds.get(i) >> c & 1) == 0) continue;
        hits++;
        if (cuts(years.get(i)) < fewest) {
          fewest = cuts(years.get(i));
          least = years.get(i);
        }
      }
      int by = divisor(years.size(), hits);
      due(21, "together(" + c + ", 0) of " + t, of(t).together(c, 0), hits == 0 ? NONE : fewest);
      due(21, "together(" + c + ", 1) of " + t, of(t).together(c, 1), least);
      due(27, "odds(" + c + ", 0) of " + t, of(t).odds(c, 0), hits / by);
      due(27, "odds(" + c + ", 1) of " + t, of(t).odds(c, 1), years.size() / by);
    }
  }

  private static void seen(String t) {
    for (int c = 0; c < cells; c++) {
      for (int d = 0; d < cells; d++) {
        for (int is = 0; is < 4; is++) {
          RiverDiggers x = of(t);
          x.see(c, (is & 1) == 1);
          x.see(d, (is & 2) == 2);
          int fit = 0, least = NONE, inAll = (1 << farms) - 1, inNone = inAll;
          for (int i = 0; i < years.size(); i++) {
            if ((beds.get(i) >> c & 1) != (is & 1) || (beds.get(i) >> d & 1) != is >> 1) continue;
            fit++;
            if (least == NONE) least = years.get(i);
            for (int f = 0; f < farms; f++) {
              boolean cut = years.get(i) / PLACE[f] % 26 > 0;
              if (cut) inNone &= ~(1 << f);
              else inAll &= ~(1 << f);
            }
          }
          String of = " with " + c + ", " + d + " seen as " + is + " of " + t;
          due(30, "fits(0)" + of, x.fits(0), fit);
          due(30, "fits(1)" + of, x.fits(1), least);
          due(30, "fits(2)" + of, x.fits(2), fit == 0 ? NONE : inAll);
          due(30, "fits(3)" + of, x.fits(3), fit == 0 ? NONE : inNone);
        }
      }
    }
  }

  /** Years that could be when they were asked about, and can be no more, are not asked about any more. */
  private static void staleYears() {
    String t = PLAINS[10];
    for (int c = 0; c < 24; c++) {
      RiverDiggers x = of(t), y = of(t);
      run(x, "fits 0 = 729", "dam " + c + " 2", "fits 0 = 648");
      y.dam(c, 2);
      for (int option = 0; option < 26; option++) {
        int year = option * PLACE[c / 8];
        due(24, "breaks(" + year + ") without " + c, x.breaks(year), y.breaks(year));
        due(24, "breaks(" + year + ") can be without " + c, x.breaks(year) == STATE ? 0 : 1, option == 0 || (option - 1) / 8 == c / 8 && option - 1 != c && option < 25 ? 1 : 0);
      }
      for (int d = 0; d < 25; d++) {
        due(21, "together(" + d + ", 1) without " + c, x.together(d, 1), y.together(d, 1));
        due(27, "odds(" + d + ", 0) without " + c, x.odds(d, 0), y.odds(d, 0));
      }
      due(22, "selfish(0) without " + c, x.selfish(0), y.selfish(0));
      due(23, "rests(0) without " + c, x.rests(0), y.rests(0));
    }
  }
}
