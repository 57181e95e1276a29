import java.util.Arrays;

/** A river moved by its diggers; README.md says how it is used. */
public final class RiverDiggers {
    public static final int BAD = -1, STATE = -2, FULL = -3, NONE = -4;

    private static final int LONGEST_SIDE = 5, CELLS = 25, SIDES = 4;
    private static final int FARMS = 3, GROUND = 8, OPTIONS = 9, ALL_OPTIONS = 729;
    private static final int YARD = 3, HIGHEST = 99, WORTHIEST = 9, LAWS = 3;
    private static final int DIGIT = 26, LAST_NUMBER = 17575, MOST_YEARS = 999;
    private static final int MOST_TOLD = 6, MOST_SEEN = 8, IMAGES = 2;
    private static final int LONGEST_PLAN = 3, LONGEST_STAND = 20, LONGEST_WAIT = 60;
    private static final int TAPE = 320, FEED = 8, LONGEST_NUMBER = 2;
    private static final int SHEETS = 4, LANES = 3, SHEET_CELLS = 40, MOST_READ = 20;
    private static final int NULL_FAULT = 1, INDEX_FAULT = 2, CAST_FAULT = 3, SIZE_FAULT = 4;

    private final Land land = new Land();
    private final Times now = new Times(land);
    private final Times image0 = new Times(land);
    private final Times image1 = new Times(land);
    private final Flow trial = new Flow(land);
    private final Outlook outlook = new Outlook();
    private final Digger digger = new Digger(land, new Digger(land, new Digger(land, new Digger(land, null))));
    private final Tape tape = new Tape();
    private final Draft draft = new Draft();
    private final Sheets sheets = new Sheets();
    private final int[] history = new int[(LONGEST_WAIT + 1) * CELLS];
    private int kept;
    private int textFault;
    private int readFault;

    public RiverDiggers() {
        draft.clear();
        draft.settle(land, now);
    }

    // ---- the text

    public int feed(long v) {
        return tape.append(v) ? tape.length : FULL;
    }

    public int end(int n) {
        if (n < 0 || n > tape.length) {
            return BAD;
        }
        int had = tape.length;
        tape.length = n;
        return had;
    }

    public int text() {
        int lines = draft.take(tape);
        textFault = tape.flaw;
        tape.length = 0;
        if (textFault != 0) {
            return -10 - tape.place;
        }
        draft.settle(land, now);
        outlook.ready = false;
        kept = 0;
        return lines;
    }

    public int fault() {
        return textFault;
    }

    public int rule(int what) {
        switch (what) {
            case 0: return land.wide;
            case 1: return land.high;
            case 2: return now.flow.spring;
            case 3: return land.farms;
            case 4: return now.flow.law;
            case 5: return now.flow.silted ? 1 : 0;
            case 6: return now.years;
            default: return BAD;
        }
    }

    public int cell(int c, int what) {
        if (!land.hasCell(c) || what < 0 || what > 1) {
            return BAD;
        }
        return what == 0 ? now.flow.heights[c] : land.ownerOf(c);
    }

    public int farm(int f, int what) {
        if (!land.hasFarm(f)) {
            return BAD;
        }
        switch (what) {
            case 0: return now.worths[f];
            case 1: return land.ground[f];
            case 2: return now.gain(f, now.flow.bits);
            case 3: return now.flow.cuttable(f);
            default: return BAD;
        }
    }

    public int bed(int i) {
        if (i < 0) {
            return BAD;
        }
        return i < now.flow.length ? now.flow.way[i] : NONE;
    }

    // ---- what is changed

    public int dam(int c, int v) {
        if (!land.hasCell(c) || v < 0 || v > HIGHEST) {
            return BAD;
        }
        int was = now.flow.heights[c];
        now.flow.heights[c] = v;
        retrace();
        return was;
    }

    public int move(int c) {
        if (!land.hasCell(c)) {
            return BAD;
        }
        int was = now.flow.spring;
        now.flow.spring = c;
        retrace();
        return was;
    }

    public int law(int v) {
        if (v < 0 || v >= LAWS) {
            return BAD;
        }
        int was = now.flow.law;
        now.flow.law = v;
        outlook.ready = false;
        return was;
    }

    public int silt(boolean is) {
        int was = now.flow.silted ? 1 : 0;
        now.flow.silted = is;
        outlook.ready = false;
        return was;
    }

    public int price(int f, int v) {
        if (!land.hasFarm(f) || v < 1 || v > WORTHIEST) {
            return BAD;
        }
        int was = now.worths[f];
        now.worths[f] = v;
        return was;
    }

    private void retrace() {
        now.flow.trace();
        outlook.ready = false;
    }

    // ---- years

    public int year(int y) {
        int refusal = refusal(now.flow, y, now.years);
        if (refusal != 0) {
            return refusal;
        }
        now.flow.pass(y);
        now.years++;
        outlook.ready = false;
        return now.flow.length;
    }

    public int would(int y, int f) {
        if (!isNumber(y) || !land.hasFarm(f)) {
            return BAD;
        }
        if (now.flow.refused(y) >= 0) {
            return STATE;
        }
        trial.copy(now.flow);
        trial.pass(y);
        return now.gain(f, trial.bits);
    }

    public int tell(int y) {
        if (!isNumber(y)) {
            return BAD;
        }
        if (now.tolds >= MOST_TOLD) {
            return FULL;
        }
        now.told[now.tolds] = y;
        now.tolds++;
        return now.tolds;
    }

    public int drop(int n) {
        if (n < 0 || n > now.tolds) {
            return BAD;
        }
        int were = now.tolds;
        now.tolds = n;
        return were;
    }

    public int judge(int what) {
        if (what < 0 || what > 1) {
            return BAD;
        }
        trial.copy(now.flow);
        for (int i = 0; i < now.tolds && i < MOST_TOLD; i++) {
            int f = trial.refused(now.told[i]);
            if (f >= 0) {
                return what == 0 ? i : land.hasFarm(f) ? f : NONE;
            }
            trial.pass(now.told[i]);
        }
        return NONE;
    }

    /** Why a year can not go from there, as year() says it; 0: it can. */
    private static int refusal(Flow from, int y, int years) {
        if (!isNumber(y)) {
            return BAD;
        }
        if (from.refused(y) >= 0) {
            return STATE;
        }
        return years >= MOST_YEARS ? FULL : 0;
    }

    private static boolean isNumber(int y) {
        return y >= 0 && y <= LAST_NUMBER;
    }

    /** What a farm does in a year: 0, or the cell that it cuts and 1. */
    private static int option(int y, int f) {
        switch (f) {
            case 0: return y % DIGIT;
            case 1: return y / DIGIT % DIGIT;
            case 2: return y / (DIGIT * DIGIT) % DIGIT;
            default: return 0;
        }
    }

    /** The year in which that farm does so and no other cuts. */
    private static int numberOf(int option, int f) {
        switch (f) {
            case 0: return option;
            case 1: return option * DIGIT;
            case 2: return option * DIGIT * DIGIT;
            default: return 0;
        }
    }

    private static boolean has(int bits, int c) {
        return (bits >> c & 1) != 0;
    }

    // ---- where it is brought

    public int alone(int f, int c, int what) {
        boolean asksCut = what >= 10 && what < 10 + LONGEST_PLAN;
        if (!land.hasFarm(f) || !land.hasCell(c) || what != 0 && !asksCut) {
            return BAD;
        }
        int years = digger.fewest(now.flow, f, c);
        if (years < 0) {
            return NONE;
        }
        if (what == 0) {
            return years;
        }
        return what - 10 < years ? digger.cutOf(what - 10) : NONE;
    }

    public int together(int c, int what) {
        if (!land.hasCell(c) || what < 0 || what > 1) {
            return BAD;
        }
        lookAhead();
        int fewest = FARMS + 1;
        int least = NONE;
        for (int i = 0; i < outlook.size; i++) {
            int cuts = Integer.bitCount(cutters(outlook.years[i]));
            if (has(outlook.beds[i], c) && cuts < fewest) {
                fewest = cuts;
                least = outlook.years[i];
            }
        }
        return least == NONE || what == 1 ? least : fewest;
    }

    private void lookAhead() {
        if (!outlook.ready) {
            outlook.build(now.flow, trial);
        }
    }

    /** The farms that cut in a year, as bits. */
    private static int cutters(int y) {
        int bits = 0;
        for (int f = 0; f < FARMS; f++) {
            if (option(y, f) != 0) {
                bits |= 1 << f;
            }
        }
        return bits;
    }

    // ---- for themselves

    public int selfish(int what) {
        if (what != 0 && (what < 10 || !land.hasFarm(what - 10))) {
            return BAD;
        }
        lookAhead();
        int i = outlook.chosen(now, 0, 0);
        return what == 0 ? outlook.years[i] : now.gain(what - 10, outlook.beds[i]);
    }

    public int rests(int what) {
        if (what < 0 || what > 1) {
            return BAD;
        }
        lookAhead();
        int found = 0;
        for (int i = 0; i < outlook.size; i++) {
            if (outlook.breakers(now, i) == 0) {
                if (what == 1) {
                    return outlook.years[i];
                }
                found++;
            }
        }
        return what == 0 ? found : NONE;
    }

    public int breaks(int y) {
        if (!isNumber(y)) {
            return BAD;
        }
        lookAhead();
        int i = outlook.indexOf(y);
        return i < 0 ? STATE : outlook.breakers(now, i);
    }

    // ---- without cuts

    public int stands(int c) {
        if (!land.hasCell(c)) {
            return BAD;
        }
        if (!has(now.flow.bits, c)) {
            return STATE;
        }
        trial.copy(now.flow);
        for (int years = 0; years < LONGEST_STAND; years++) {
            trial.pass(0);
            if (!has(trial.bits, c)) {
                return years;
            }
        }
        return LONGEST_STAND;
    }

    public int again(int what) {
        if (what < 0 || what > 1) {
            return BAD;
        }
        trial.copy(now.flow);
        note(0);
        for (int years = 1; years <= LONGEST_WAIT; years++) {
            trial.pass(0);
            int first = firstAlike(years);
            if (first >= 0) {
                return what == 0 ? first : years - first;
            }
            note(years);
        }
        return NONE;
    }

    private void note(int years) {
        System.arraycopy(trial.heights, 0, history, years * CELLS, CELLS);
    }

    /** The first of the years noted behind which heights were as on trial, -1 if none. */
    private int firstAlike(int noted) {
        for (int i = 0; i < noted; i++) {
            if (isAlike(i)) {
                return i;
            }
        }
        return -1;
    }

    private boolean isAlike(int years) {
        for (int c = 0; c < CELLS; c++) {
            if (history[years * CELLS + c] != trial.heights[c]) {
                return false;
            }
        }
        return true;
    }

    // ---- luck, seen

    public long odds(int c, int what) {
        if (!land.hasCell(c) || what < 0 || what > 1) {
            return BAD;
        }
        lookAhead();
        int hits = 0;
        for (int i = 0; i < outlook.size; i++) {
            if (has(outlook.beds[i], c)) {
                hits++;
            }
        }
        int divisor = commonDivisor(outlook.size, hits);
        return divisor < 1 ? 0 : (what == 0 ? hits : outlook.size) / divisor;
    }

    private static int commonDivisor(int a, int b) {
        int high = a;
        int low = b;
        // Each two turns halve the lower number, so 64 turns end every pair of ints.
        for (int turn = 0; turn < 64 && low != 0; turn++) {
            int rest = high % low;
            high = low;
            low = rest;
        }
        return high;
    }

    public int see(int c, boolean is) {
        if (!land.hasCell(c)) {
            return BAD;
        }
        if (now.seens >= MOST_SEEN) {
            return FULL;
        }
        now.seen[now.seens] = is ? c : c - CELLS;
        now.seens++;
        return now.seens;
    }

    public int forget(int n) {
        if (n < 0 || n > now.seens) {
            return BAD;
        }
        int were = now.seens;
        now.seens = n;
        return were;
    }

    public int fits(int what) {
        if (what < 0 || what > 3) {
            return BAD;
        }
        lookAhead();
        int found = 0;
        int least = NONE;
        int inAll = (1 << land.farms) - 1;
        int inNone = inAll;
        for (int i = 0; i < outlook.size; i++) {
            if (now.agrees(outlook.beds[i])) {
                int cutters = cutters(outlook.years[i]);
                least = found == 0 ? outlook.years[i] : least;
                inAll &= cutters;
                inNone &= ~cutters;
                found++;
            }
        }
        if (what == 0 || found == 0) {
            return what == 0 ? found : NONE;
        }
        return what == 1 ? least : what == 2 ? inAll : inNone;
    }

    // ---- images, sheets

    public int keep(int k) {
        if (k < 0 || k >= IMAGES) {
            return BAD;
        }
        int was = kept >> k & 1;
        imageOf(k).copy(now);
        kept |= 1 << k;
        return was;
    }

    public int back(int k) {
        if (k < 0 || k >= IMAGES) {
            return BAD;
        }
        if (!has(kept, k)) {
            return STATE;
        }
        now.copy(imageOf(k));
        outlook.ready = false;
        return now.years;
    }

    private Times imageOf(int k) {
        return k == 0 ? image0 : image1;
    }

    public int sheet(int k, int lane, int n) {
        if (!sheets.hasSheet(k) || !sheets.hasLane(lane) || n > SHEET_CELLS) {
            return BAD;
        }
        if (n < 0) {
            return -10 - SIZE_FAULT;
        }
        sheets.renew(k, lane, n);
        return 1;
    }

    public int lay(int k, int i, int v) {
        if (!sheets.hasSheet(k)) {
            return BAD;
        }
        int fault = sheets.reachFault(k, i);
        if (fault != 0) {
            return -10 - fault;
        }
        sheets.put(k, i, v);
        return 1;
    }

    public int read(int k, int lane, int f, int n) {
        if (!sheets.hasSheet(k) || !sheets.hasLane(lane) || n < 0 || n > MOST_READ) {
            return BAD;
        }
        trial.copy(now.flow);
        int went = 0;
        int fault = 0;
        for (int i = 0; i < n && fault == 0; i++) {
            fault = sheets.takeFault(k, lane, f + i);
            if (fault == 0) {
                int y = sheets.valueAt(k, f + i);
                if (refusal(trial, y, now.years + i) != 0) {
                    return -20 - i;
                }
                trial.pass(y);
                went++;
            }
        }
        now.flow.copy(trial);
        now.years += went;
        outlook.ready = false;
        readFault = fault;
        return went;
    }

    public int torn() {
        return readFault;
    }

    public int count(int what) {
        switch (what) {
            case 0: return now.flow.length;
            case 1: return now.tolds;
            case 2: return now.seens;
            case 3: return Integer.bitCount(kept);
            case 4: return tape.length;
            case 5: return sheets.sizes[0] < 0 ? NONE : sheets.sizes[0];
            case 6: return now.flow.allParts();
            case 7: return now.flow.possibleYears();
            default: return BAD;
        }
    }

    /** What a text alone changes: the sides of the plain, the farms, whose ground is where. */
    private static final class Land {
        final int[] ground = new int[FARMS];
        final int[] near = new int[CELLS * SIDES];
        int wide;
        int high;
        int farms;

        boolean hasCell(int c) {
            return c >= 0 && c < wide * high;
        }

        boolean hasFarm(int f) {
            return f >= 0 && f < farms;
        }

        int ownerOf(int c) {
            for (int f = 0; f < farms; f++) {
                if (has(ground[f], c)) {
                    return f;
                }
            }
            return NONE;
        }

        /** Finds once for each cell those north, east, south and west of it (-1: none). */
        void join() {
            for (int row = 0; row < high; row++) {
                for (int column = 0; column < wide; column++) {
                    int c = row * wide + column;
                    near[c * SIDES] = row > 0 ? c - wide : -1;
                    near[c * SIDES + 1] = column + 1 < wide ? c + 1 : -1;
                    near[c * SIDES + 2] = row + 1 < high ? c + wide : -1;
                    near[c * SIDES + 3] = column > 0 ? c - 1 : -1;
                }
            }
        }

        /** The cells next to one of these, as bits. */
        int beside(int bits) {
            int found = 0;
            for (int i = 0; i < wide * high * SIDES; i++) {
                if (near[i] >= 0 && has(bits, i / SIDES)) {
                    found |= 1 << near[i];
                }
            }
            return found;
        }
    }

    /** Heights and the bed by them, with the rules by which a year goes on from there. */
    private static final class Flow {
        final Land land;
        final int[] heights = new int[CELLS];
        final int[] way = new int[CELLS];
        int length;
        int bits;
        int spring;
        int law;
        boolean silted;

        Flow(Land land) {
            this.land = land;
        }

        void copy(Flow from) {
            System.arraycopy(from.heights, 0, heights, 0, CELLS);
            System.arraycopy(from.way, 0, way, 0, CELLS);
            length = from.length;
            bits = from.bits;
            spring = from.spring;
            law = from.law;
            silted = from.silted;
        }

        void trace() {
            length = 0;
            bits = 0;
            int at = spring;
            while (at >= 0 && length < CELLS) {
                way[length] = at;
                length++;
                bits |= 1 << at;
                at = lowestNextTo(at);
            }
        }

        private int lowestNextTo(int at) {
            int lowest = -1;
            for (int side = 0; side < SIDES; side++) {
                int c = land.near[at * SIDES + side];
                boolean open = c >= 0 && !has(bits, c) && heights[c] <= heights[at];
                if (open && (lowest < 0 || heights[c] < heights[lowest])) {
                    lowest = c;
                }
            }
            return lowest;
        }

        /** The cells that a farm may cut, as bits. */
        int cuttable(int f) {
            if (!land.hasFarm(f)) {
                return 0;
            }
            int open = 0;
            for (int c = 0; c < CELLS; c++) {
                if (has(land.ground[f], c) && heights[c] >= YARD) {
                    open |= 1 << c;
                }
            }
            if (law == 1) {
                return open & (bits | land.beside(bits));
            }
            return law == 2 ? open & land.beside(bits) & ~bits : open;
        }

        /** The first place of a year's number, farm or not, that can not be so; -1: the year can be. */
        int refused(int y) {
            for (int f = 0; f < FARMS; f++) {
                int option = option(y, f);
                if (option != 0 && !has(cuttable(f), option - 1)) {
                    return f;
                }
            }
            return -1;
        }

        int possibleYears() {
            int years = 1;
            for (int f = 0; f < land.farms; f++) {
                years *= 1 + Integer.bitCount(cuttable(f));
            }
            return years;
        }

        int allParts() {
            int parts = 0;
            for (int c = 0; c < CELLS; c++) {
                parts += heights[c];
            }
            return parts;
        }

        /** Lets a year go that can be. */
        void pass(int y) {
            for (int f = 0; f < FARMS; f++) {
                int option = option(y, f);
                if (option > 0) {
                    heights[option - 1] -= YARD;
                }
            }
            trace();
            if (silted && length >= 4) {
                carrySilt();
                trace();
            }
        }

        private void carrySilt() {
            int taken = 0;
            for (int i = 1; i <= 3; i++) {
                if (heights[way[i]] > 0) {
                    heights[way[i]]--;
                    taken++;
                }
            }
            heights[way[length - 1]] += taken;
        }
    }

    /** All that is not the land: an image is one of these. */
    private static final class Times {
        final Flow flow;
        final int[] worths = new int[FARMS];
        final int[] told = new int[MOST_TOLD];
        /** The cells seen in the bed; those seen out of it, less 25. */
        final int[] seen = new int[MOST_SEEN];
        int years;
        int tolds;
        int seens;

        Times(Land land) {
            flow = new Flow(land);
        }

        void copy(Times from) {
            flow.copy(from.flow);
            System.arraycopy(from.worths, 0, worths, 0, FARMS);
            System.arraycopy(from.told, 0, told, 0, MOST_TOLD);
            System.arraycopy(from.seen, 0, seen, 0, MOST_SEEN);
            years = from.years;
            tolds = from.tolds;
            seens = from.seens;
        }

        /** What a farm has, if the bed is these bits. */
        int gain(int f, int bed) {
            if (!flow.land.hasFarm(f)) {
                return 0;
            }
            return worths[f] * Integer.bitCount(flow.land.ground[f] & bed);
        }

        boolean agrees(int bed) {
            for (int i = 0; i < seens && i < MOST_SEEN; i++) {
                boolean is = seen[i] >= 0;
                if (has(bed, is ? seen[i] : seen[i] + CELLS) != is) {
                    return false;
                }
            }
            return true;
        }
    }

    /** Every year that can be now, by rising numbers, each with the bed behind it. */
    private static final class Outlook {
        final int[] options = new int[FARMS * OPTIONS];
        final int[] counts = new int[FARMS];
        /** How far the next option of a farm is, all others staying. */
        final int[] steps = new int[FARMS];
        final int[] years = new int[ALL_OPTIONS];
        final int[] beds = new int[ALL_OPTIONS];
        int size;
        boolean ready;

        void build(Flow from, Flow trial) {
            int step = 1;
            for (int f = 0; f < FARMS; f++) {
                list(f, from.cuttable(f));
                steps[f] = step;
                step *= counts[f];
            }
            size = 0;
            for (int third = 0; third < counts[2]; third++) {
                for (int second = 0; second < counts[1]; second++) {
                    int later = numberOf(options[OPTIONS + second], 1) + numberOf(options[2 * OPTIONS + third], 2);
                    for (int first = 0; first < counts[0] && size < ALL_OPTIONS; first++) {
                        years[size] = numberOf(options[first], 0) + later;
                        trial.copy(from);
                        trial.pass(years[size]);
                        beds[size] = trial.bits;
                        size++;
                    }
                }
            }
            ready = true;
        }

        private void list(int f, int cuttable) {
            int listed = 1;
            options[f * OPTIONS] = 0;
            for (int c = 0; c < CELLS && listed < OPTIONS; c++) {
                if (has(cuttable, c)) {
                    options[f * OPTIONS + listed] = c + 1;
                    listed++;
                }
            }
            counts[f] = listed;
        }

        int indexOf(int y) {
            for (int i = 0; i < size; i++) {
                if (years[i] == y) {
                    return i;
                }
            }
            return -1;
        }

        /** The farms that would have more than in year i by another option alone, as bits. */
        int breakers(Times now, int i) {
            int bits = 0;
            for (int f = 0; f < FARMS; f++) {
                int first = i - steps[f] * placeOf(f, option(years[i], f));
                int most = now.gain(f, beds[i]);
                for (int place = 0; place < counts[f]; place++) {
                    if (now.gain(f, beds[first + place * steps[f]]) > most) {
                        bits |= 1 << f;
                    }
                }
            }
            return bits;
        }

        private int placeOf(int f, int option) {
            for (int place = 0; place < counts[f]; place++) {
                if (options[f * OPTIONS + place] == option) {
                    return place;
                }
            }
            return 0;
        }

        /** Which year it comes to, if farms from f on choose for themselves and those ahead have. */
        private int chosen(Times now, int f, int ahead) {
            if (f < 0 || f >= FARMS) {
                return ahead;
            }
            int best = chosen(now, f + 1, ahead);
            for (int place = 1; place < counts[f]; place++) {
                int i = chosen(now, f + 1, ahead + place * steps[f]);
                if (now.gain(f, beds[i]) > now.gain(f, beds[best])) {
                    best = i;
                }
            }
            return best;
        }
    }

    /** One year of a farm that cuts alone; the years behind it hang on it as a chain. */
    private static final class Digger {
        final Flow flow;
        final Digger next;
        int cut;

        Digger(Land land, Digger next) {
            this.flow = new Flow(land);
            this.next = next;
        }

        /** In how many years the farm can bring the bed to a cell, by the cuts of the chain; -1: it can not. */
        int fewest(Flow now, int f, int c) {
            flow.copy(now);
            for (int years = 0; years <= LONGEST_PLAN; years++) {
                if (brings(f, c, years)) {
                    return years;
                }
            }
            return -1;
        }

        private boolean brings(int f, int c, int years) {
            if (years <= 0 || next == null) {
                return has(flow.bits, c);
            }
            int cuttable = flow.cuttable(f);
            // No cut is tried ahead of all cells, and told as cell 25.
            for (int option = 0; option <= CELLS; option++) {
                if (option == 0 || has(cuttable, option - 1)) {
                    cut = option == 0 ? CELLS : option - 1;
                    next.flow.copy(flow);
                    next.flow.pass(numberOf(option, f));
                    if (next.brings(f, c, years - 1)) {
                        return true;
                    }
                }
            }
            return false;
        }

        int cutOf(int year) {
            Digger at = this;
            for (int i = 0; i < year && at.next != null; i++) {
                at = at.next;
            }
            return at.cut;
        }
    }

    /** Rows of numbers, and what the machine would find wrong with them. */
    private static final class Sheets {
        final int[] lanes = new int[SHEETS];
        /** How many cells a sheet has; -1: it is nothing. */
        final int[] sizes = new int[SHEETS];
        final int[] values = new int[SHEETS * SHEET_CELLS];

        Sheets() {
            Arrays.fill(sizes, -1);
        }

        boolean hasSheet(int k) {
            return k >= 0 && k < SHEETS;
        }

        boolean hasLane(int lane) {
            return lane >= 0 && lane < LANES;
        }

        void renew(int k, int lane, int n) {
            lanes[k] = lane;
            sizes[k] = n;
            for (int i = 0; i < SHEET_CELLS; i++) {
                values[k * SHEET_CELLS + i] = 0;
            }
        }

        /** Nothing can be taken as of any lane, and a row is taken as of its lane ahead of its cell. */
        int takeFault(int k, int lane, int i) {
            return sizes[k] >= 0 && lanes[k] != lane ? CAST_FAULT : reachFault(k, i);
        }

        int reachFault(int k, int i) {
            if (sizes[k] < 0) {
                return NULL_FAULT;
            }
            return i < 0 || i >= sizes[k] ? INDEX_FAULT : 0;
        }

        int valueAt(int k, int i) {
            return values[k * SHEET_CELLS + i];
        }

        void put(int k, int i, int v) {
            int lane = lanes[k];
            values[k * SHEET_CELLS + i] = lane == 0 ? (byte) v : lane == 1 ? (short) v : v;
        }
    }

    /** The bytes of a text and its tokens, read one by one up to the first fault. */
    private static final class Tape {
        static final int END = 0, NAME = 1, NUMBER = 2, STOP = 3;

        final byte[] bytes = new byte[TAPE];
        int length;
        /** Where the next token is looked for. */
        int at;
        int kind;
        /** Where the latest token begins. */
        int start;
        int value;
        int flaw;
        int place;

        boolean append(long v) {
            if (length + FEED > TAPE) {
                return false;
            }
            for (int i = 0; i < FEED; i++) {
                bytes[length + i] = (byte) (v >> 8 * (FEED - 1 - i));
            }
            length += FEED;
            return true;
        }

        void rewind() {
            at = 0;
            flaw = 0;
            place = 0;
        }

        void fail(int fault) {
            flaw = fault;
            place = start;
        }

        void failBehindAll(int fault) {
            flaw = fault;
            place = length;
        }

        void next() {
            while (at < length && bytes[at] == ' ') {
                at++;
            }
            start = at;
            value = 0;
            if (at >= length) {
                kind = END;
                return;
            }
            if (bytes[at] == ';') {
                kind = STOP;
                at++;
                return;
            }
            kind = isLetter(bytes[at]) ? NAME : NUMBER;
            while (at < length && kind == NAME && isLetter(bytes[at])) {
                at++;
            }
            while (at < length && kind == NUMBER && isFigure(bytes[at])) {
                value = value * 10 + bytes[at] - '0';
                at++;
            }
            // A byte that begins no token is left as a number without figures.
            if (at == start || kind == NUMBER && at - start > LONGEST_NUMBER) {
                fail(1);
            }
        }

        private static boolean isLetter(byte b) {
            return b >= 'a' && b <= 'z';
        }

        private static boolean isFigure(byte b) {
            return b >= '0' && b <= '9';
        }

        /** Whether the latest token is that name. */
        boolean says(String name) {
            if (kind != NAME || at - start != name.length()) {
                return false;
            }
            for (int i = 0; i < name.length(); i++) {
                if (bytes[start + i] != name.charAt(i)) {
                    return false;
                }
            }
            return true;
        }

        /** Whether the latest token may stand as a number from low to high; a fault if not. */
        boolean isNumber(int low, int high) {
            if (flaw == 0 && kind != NUMBER) {
                fail(2);
            }
            if (flaw == 0 && (value < low || value > high)) {
                fail(3);
            }
            return flaw == 0;
        }

        boolean nextNumber(int low, int high) {
            next();
            return isNumber(low, high);
        }

        void nextStop() {
            next();
            if (flaw == 0 && kind != STOP) {
                fail(2);
            }
        }
    }

    /** What a text has told so far; it tells all when it has been read without a fault. */
    private static final class Draft {
        static final int PLAIN = 1, SPRING = 2, LAW = 4, SILT = 8;

        final int[] yards = new int[LONGEST_SIDE * LONGEST_SIDE];
        /** How many cells a row tells; 0: it is not told. */
        final int[] lengths = new int[LONGEST_SIDE];
        final int[] ground = new int[FARMS];
        final int[] worths = new int[FARMS];
        int wide;
        int high;
        int spring;
        int law;
        int farms;
        /** Those lines, of the ones that come once, that came. */
        int came;

        void clear() {
            Arrays.fill(yards, 0);
            Arrays.fill(lengths, 0);
            Arrays.fill(ground, 0);
            Arrays.fill(worths, 0);
            wide = 3;
            high = 3;
            spring = 0;
            law = 0;
            farms = 0;
            came = 0;
        }

        /** Reads the tape up to its end or its first fault: how many lines. */
        int take(Tape tape) {
            clear();
            tape.rewind();
            int lines = 0;
            // A line has a byte at least, so a tape holds fewer lines than this.
            for (int i = 0; i <= TAPE; i++) {
                tape.next();
                if (tape.flaw == 0 && tape.kind == Tape.END) {
                    break;
                }
                if (tape.flaw == 0) {
                    takeLine(tape);
                }
                if (tape.flaw != 0) {
                    return 0;
                }
                lines++;
            }
            if (!isWhole()) {
                tape.failBehindAll(6);
            }
            return lines;
        }

        private void takeLine(Tape tape) {
            if (tape.says("plain")) {
                takePlain(tape);
            } else if (tape.says("row")) {
                takeRow(tape);
            } else if (tape.says("spring")) {
                takeSpring(tape);
            } else if (tape.says("farm")) {
                takeFarm(tape);
            } else if (tape.says("ground")) {
                takeGround(tape);
            } else if (tape.says("law")) {
                takeLaw(tape);
            } else if (tape.says("silt")) {
                takeSilt(tape);
            } else {
                tape.fail(2);
            }
        }

        private boolean comesOnce(Tape tape, int line) {
            if ((came & line) != 0) {
                tape.fail(4);
                return false;
            }
            came |= line;
            return true;
        }

        private void takePlain(Tape tape) {
            if (!comesOnce(tape, PLAIN) || !tape.nextNumber(2, LONGEST_SIDE)) {
                return;
            }
            wide = tape.value;
            if (!tape.nextNumber(2, LONGEST_SIDE)) {
                return;
            }
            high = tape.value;
            tape.nextStop();
        }

        private void takeRow(Tape tape) {
            if (!tape.nextNumber(0, LONGEST_SIDE - 1)) {
                return;
            }
            int row = tape.value;
            if (lengths[row] != 0) {
                tape.fail(4);
                return;
            }
            for (int i = 0; i <= LONGEST_SIDE; i++) {
                tape.next();
                if (i > 0 && tape.flaw == 0 && tape.kind == Tape.STOP) {
                    return;
                }
                if (!tape.isNumber(0, 9)) {
                    return;
                }
                if (i >= LONGEST_SIDE) {
                    tape.fail(5);
                    return;
                }
                yards[row * LONGEST_SIDE + i] = tape.value;
                lengths[row] = i + 1;
            }
        }

        private void takeSpring(Tape tape) {
            if (comesOnce(tape, SPRING) && tape.nextNumber(0, CELLS - 1)) {
                spring = tape.value;
                tape.nextStop();
            }
        }

        private void takeFarm(Tape tape) {
            if (farms >= FARMS) {
                tape.fail(5);
            } else if (tape.nextNumber(1, WORTHIEST)) {
                worths[farms] = tape.value;
                farms++;
                tape.nextStop();
            }
        }

        private void takeGround(Tape tape) {
            if (!tape.nextNumber(0, FARMS - 1)) {
                return;
            }
            int f = tape.value;
            for (int i = 0; i <= GROUND; i++) {
                tape.next();
                if (i > 0 && tape.flaw == 0 && tape.kind == Tape.STOP) {
                    return;
                }
                if (!tape.isNumber(0, CELLS - 1)) {
                    return;
                }
                if (has(ground[0] | ground[1] | ground[2], tape.value)) {
                    tape.fail(4);
                    return;
                }
                if (Integer.bitCount(ground[f]) >= GROUND) {
                    tape.fail(5);
                    return;
                }
                ground[f] |= 1 << tape.value;
            }
        }

        private void takeLaw(Tape tape) {
            if (comesOnce(tape, LAW) && tape.nextNumber(0, LAWS - 1)) {
                law = tape.value;
                tape.nextStop();
            }
        }

        private void takeSilt(Tape tape) {
            if (comesOnce(tape, SILT)) {
                tape.nextStop();
            }
        }

        /** Whether all rows, cells and farms that were named are there. */
        private boolean isWhole() {
            for (int row = 0; row < LONGEST_SIDE; row++) {
                if (lengths[row] > (row < high ? wide : 0)) {
                    return false;
                }
            }
            for (int f = 0; f < FARMS; f++) {
                if (ground[f] >> (f < farms ? wide * high : 0) != 0) {
                    return false;
                }
            }
            return spring < wide * high;
        }

        void settle(Land land, Times now) {
            land.wide = wide;
            land.high = high;
            land.farms = farms;
            System.arraycopy(ground, 0, land.ground, 0, FARMS);
            land.join();
            System.arraycopy(worths, 0, now.worths, 0, FARMS);
            now.years = 0;
            now.tolds = 0;
            now.seens = 0;
            raise(now.flow.heights);
            now.flow.spring = spring;
            now.flow.law = law;
            now.flow.silted = (came & SILT) != 0;
            now.flow.trace();
        }

        private void raise(int[] heights) {
            Arrays.fill(heights, 0);
            for (int row = 0; row < high; row++) {
                for (int column = 0; column < wide; column++) {
                    heights[row * wide + column] = YARD * yards[row * LONGEST_SIDE + column];
                }
            }
        }
    }
}
