/** A land that has only what is pressed off, left for right, from a leaf of strokes as the book is closed on it. */
public final class BlotLand {
    public static final int NONE = -1, UNKNOWN = -101, OUTSIDE = -102, STATE = -103, FULL = -104;

    private static final int CELLS = 10;
    private static final int ALL_CELLS = 1023;
    private static final int LAST_MINUTE = 20;
    private static final int MOST_INK = 99;
    private static final int LONGEST = 5;
    private static final int HEAVIEST = 9;
    private static final int MOST_STROKES = 6;
    private static final int MOST_FOUND = 6;
    private static final int MOST_EVENINGS = 60;

    private static final int STROKE = 0;
    private static final int BLOT = 1;
    private static final int QUICK = 2;
    private static final int FAINT = 3;
    private static final int TEAR = 4;
    private static final String KIND_LETTERS = "sbqft";

    private static final int LETTERS_OF_STROKE = 4;
    private static final int LETTERS_TO_NEXT = 5;
    private static final int LONGEST_LEAF = 19;
    private static final int MOST_LETTERS = 21;

    private final Page page = new Page();
    private final Stroke[] strokes = new Stroke[MOST_STROKES];
    private final State now = new State();
    private final State kept = new State();
    private boolean isKept = false;
    private int leavesRead = 0;

    // Rows that years() and look() fill anew each time, so that no call makes any.
    private final int[] inkOfYears = new int[CELLS];
    private final int[] comesByPress = new int[HEAVIEST + 1];

    public BlotLand() {
        for (int k = 0; k < strokes.length; k++) {
            strokes[k] = new Stroke(k);
        }
    }

    // ---- the leaf

    public int letter(int code) {
        if (code < 32 || code > 126) {
            return OUTSIDE;
        }
        return page.append(code) ? page.size : FULL;
    }

    public int blank() {
        int had = page.size;
        page.size = 0;
        return had;
    }

    public int fault() {
        return page.firstFault();
    }

    public int leaf() {
        if (!page.isLeaf()) {
            return STATE;
        }
        int read = 0;
        for (int at = 0; at < page.size && read < strokes.length; at += LETTERS_TO_NEXT) {
            strokes[read].become(page.kindAt(at), page.digitAt(at + 1), page.digitAt(at + 2), page.digitAt(at + 3));
            read++;
        }
        now.begin(read);
        isKept = false;
        leavesRead++;
        page.size = 0;
        return read;
    }

    // ---- strokes

    public int about(int stroke, int what) {
        if (!isStroke(stroke)) {
            return UNKNOWN;
        }
        switch (what) {
            case 0: return strokes[stroke].kind;
            case 1: return strokes[stroke].first;
            case 2: return strokes[stroke].cells;
            case 3: return strokes[stroke].press;
            case 4: return now.isSanded(stroke) ? 1 : 0;
            case 5: return heavy(stroke);
            default: return OUTSIDE;
        }
    }

    public int as(int stroke, int kind) {
        if (!isStroke(stroke)) {
            return UNKNOWN;
        }
        if (!isKind(kind)) {
            return OUTSIDE;
        }
        return strokes[stroke].isA(kind) ? stroke : NONE;
    }

    public int write(int kind, int cell, int length, int press) {
        if (!isKind(kind) || !isCell(cell) || length < 1 || length > LONGEST || press < 1 || press > HEAVIEST) {
            return OUTSIDE;
        }
        if (!hasLeaf()) {
            return STATE;
        }
        int next = now.strokes;
        if (next < 0 || next >= strokes.length) {
            return FULL;
        }
        strokes[next].become(kind, cell, length, press);
        now.strokes = next + 1;
        return next;
    }

    public int sand(int stroke, boolean is) {
        if (!isStroke(stroke)) {
            return UNKNOWN;
        }
        int was = now.isSanded(stroke) ? 1 : 0;
        now.putSanded(stroke, is);
        return was;
    }

    public int wet(int stroke, int minute) {
        if (!isStroke(stroke)) {
            return UNKNOWN;
        }
        if (!isMinute(minute)) {
            return OUTSIDE;
        }
        return now.isSanded(stroke) ? 0 : strokes[stroke].wetAt(minute, strokes[stroke].press);
    }

    // ---- the land

    public int ink(int cell) {
        return isLand(cell) ? now.inkRow[cell] : UNKNOWN;
    }

    public int comes(int cell, int minute) {
        if (!isLand(cell)) {
            return UNKNOWN;
        }
        return isMinute(minute) ? comesNow(cell, minute) : OUTSIDE;
    }

    public int evening(int minute) {
        if (!isMinute(minute)) {
            return OUTSIDE;
        }
        if (!hasLeaf()) {
            return STATE;
        }
        now.evenings++;
        return pressOff(now.inkRow, minute);
    }

    public int hills(int much) {
        if (much < 1 || much > MOST_INK) {
            return OUTSIDE;
        }
        if (!hasLeaf()) {
            return STATE;
        }
        int rows = 0;
        boolean isInRow = false;
        for (int cell = 0; cell < CELLS; cell++) {
            boolean isHigh = now.inkRow[cell] >= much;
            if (isHigh && !isInRow) {
                rows++;
            }
            isInRow = isHigh;
        }
        return rows;
    }

    // ---- what would be

    public int close(int cell, int much) {
        if (!isLand(cell)) {
            return UNKNOWN;
        }
        if (!isMuch(much)) {
            return OUTSIDE;
        }
        for (int minute = 0; minute <= LAST_MINUTE; minute++) {
            if (comesNow(cell, minute) == much) {
                return minute;
            }
        }
        return NONE;
    }

    public int toSand(int minute, int cells, int what) {
        if (!isMinute(minute) || cells < 0 || cells > ALL_CELLS || what < 0 || what > 1) {
            return OUTSIDE;
        }
        if (!hasLeaf()) {
            return STATE;
        }
        // Nothing takes ink away, so each stroke that reaches one of the cells must be sanded, and no other need be.
        int reaching = 0;
        for (int k = 0; k < now.strokes; k++) {
            if (reachesAny(k, minute, cells)) {
                reaching |= 1 << k;
            }
        }
        return what == 0 ? Integer.bitCount(reaching) : reaching;
    }

    // ---- what is found

    public int found(int cell, int minute, int much) {
        if (!isLand(cell)) {
            return UNKNOWN;
        }
        if (!isMinute(minute) || !isMuch(much)) {
            return OUTSIDE;
        }
        return now.addFound(cell, minute, much) ? now.found : FULL;
    }

    public int forget() {
        int had = now.found;
        now.found = 0;
        return had;
    }

    public int look(int stroke, int minute) {
        if (!isStroke(stroke)) {
            return UNKNOWN;
        }
        if (!isMinute(minute)) {
            return OUTSIDE;
        }
        int presses = heavy(stroke);
        if (presses == 0) {
            return NONE;
        }
        int best = NONE;
        int fewest = HEAVIEST + 1;
        for (int cell = 0; cell < CELLS; cell++) {
            int left = leftAtWorst(cell, minute, stroke, presses);
            if (left < fewest) {
                fewest = left;
                best = cell;
            }
        }
        return best;
    }

    public int years(int evenings, int seed, int what) {
        if (evenings < 1 || evenings > MOST_EVENINGS || seed < 0 || what < 0 || what > 2) {
            return OUTSIDE;
        }
        if (!hasLeaf()) {
            return STATE;
        }
        copyRow(now.inkRow, inkOfYears);
        int drawn = seed;
        for (int i = 0; i < evenings; i++) {
            drawn = seedAfter(drawn);
            pressOff(inkOfYears, drawn / 65536 % (LAST_MINUTE + 1));
        }
        switch (what) {
            case 0: return inkIn(inkOfYears);
            case 1: return dryIn(inkOfYears);
            default: return drawn;
        }
    }

    // ---- what is told of all

    public int image() {
        if (!hasLeaf()) {
            return STATE;
        }
        kept.copyFrom(now);
        isKept = true;
        return now.evenings;
    }

    public int restore() {
        if (!isKept) {
            return STATE;
        }
        // The strokes themselves need no copy: those of the image are only ever added to.
        now.copyFrom(kept);
        return now.evenings;
    }

    public int count(int what) {
        switch (what) {
            case 0: return now.strokes;
            case 1: return Integer.bitCount(now.sanded);
            case 2: return now.evenings;
            case 3: return inkIn(now.inkRow);
            case 4: return hasLeaf() ? dryIn(now.inkRow) : 0;
            case 5: return now.found;
            case 6: return page.size;
            case 7: return leavesRead;
            default: return OUTSIDE;
        }
    }

    public long digest() {
        long h = 1049L;
        for (int k = 0; k < now.strokes; k++) {
            for (int what = 0; what <= 5; what++) {
                h = mixed(h, about(k, what));
            }
            h = mixed(h, wet(k, 3));
            h = mixed(h, wet(k, 9));
            h = mixed(h, look(k, 6));
        }
        if (hasLeaf()) {
            h = withLand(h);
        }
        for (int place = 0; place < page.size; place++) {
            h = mixed(h, page.codeAt(place));
        }
        for (int what = 0; what <= 7; what++) {
            h = mixed(h, count(what));
        }
        return h;
    }

    private long withLand(long before) {
        long h = before;
        for (int cell = 0; cell < CELLS; cell++) {
            h = mixed(h, ink(cell));
            h = mixed(h, comes(cell, 4));
        }
        h = mixed(h, hills(5));
        h = mixed(h, toSand(4, ALL_CELLS, 0));
        return mixed(h, toSand(4, ALL_CELLS, 1));
    }

    private static long mixed(long h, long number) {
        return 31L * h + number;
    }

    // ---- what a number may name or be

    private boolean hasLeaf() {
        return now.strokes > 0;
    }

    private boolean isStroke(int number) {
        return number >= 0 && number < now.strokes && number < strokes.length;
    }

    private boolean isLand(int cell) {
        return hasLeaf() && isCell(cell);
    }

    private static boolean isCell(int cell) {
        return cell >= 0 && cell < CELLS;
    }

    private static boolean isKind(int kind) {
        return kind >= STROKE && kind <= TEAR;
    }

    private static boolean isMinute(int minute) {
        return minute >= 0 && minute <= LAST_MINUTE;
    }

    private static boolean isMuch(int much) {
        return much >= 0 && much <= MOST_INK;
    }

    // ---- what is pressed off

    private int comesNow(int landCell, int minute) {
        return comesIf(landCell, minute, NONE, 0);
    }

    /** What comes to a cell of the land if the one stroke (or NONE) had this press, all else as it is. */
    private int comesIf(int landCell, int minute, int changed, int press) {
        int leafCell = CELLS - 1 - landCell;
        int sum = 0;
        for (int k = 0; k < now.strokes && k < strokes.length; k++) {
            if (!now.isSanded(k)) {
                Stroke each = strokes[k];
                int wetness = each.wetAt(minute, k == changed ? press : each.press);
                sum += each.givesTo(leafCell, wetness);
            }
        }
        return sum;
    }

    /** Presses an evening off on the row: how much comes to all of it, with what has no room. */
    private int pressOff(int[] row, int minute) {
        int all = 0;
        for (int cell = 0; cell < row.length; cell++) {
            int more = comesNow(cell, minute);
            all += more;
            row[cell] = Math.min(MOST_INK, row[cell] + more);
        }
        return all;
    }

    private boolean reachesAny(int stroke, int minute, int landCells) {
        int wetness = wet(stroke, minute);
        for (int cell = 0; cell < CELLS; cell++) {
            boolean isAsked = (landCells >> cell & 1) == 1;
            if (isAsked && isStroke(stroke) && strokes[stroke].givesTo(CELLS - 1 - cell, wetness) > 0) {
                return true;
            }
        }
        return false;
    }

    // ---- what presses a stroke can have

    /** The presses with which all that is found would be so, as bits: 1 for the press 1. */
    private int heavy(int stroke) {
        int bits = 0;
        for (int press = 1; press <= HEAVIEST; press++) {
            if (isAllFoundWith(stroke, press)) {
                bits |= 1 << (press - 1);
            }
        }
        return bits;
    }

    private boolean isAllFoundWith(int stroke, int press) {
        for (int i = 0; i < now.found && i < MOST_FOUND; i++) {
            if (comesIf(now.foundCell[i], now.foundMinute[i], stroke, press) != now.foundMuch[i]) {
                return false;
            }
        }
        return true;
    }

    /** How many of these presses are left, at worst, behind a look at what comes to the cell. */
    private int leftAtWorst(int cell, int minute, int stroke, int presses) {
        for (int press = 1; press <= HEAVIEST; press++) {
            comesByPress[press] = comesIf(cell, minute, stroke, press);
        }
        int worst = 0;
        for (int press = 1; press <= HEAVIEST; press++) {
            worst = Math.max(worst, countLike(comesByPress[press], presses));
        }
        return worst;
    }

    private int countLike(int comes, int presses) {
        int like = 0;
        for (int press = 1; press <= HEAVIEST; press++) {
            boolean isLeft = (presses >> (press - 1) & 1) == 1;
            if (isLeft && comesByPress[press] == comes) {
                like++;
            }
        }
        return like;
    }

    // ---- rows and draws

    private static int seedAfter(int seed) {
        return (int) ((1103515245L * seed + 12345L) % 2147483648L);
    }

    private static int inkIn(int[] row) {
        int sum = 0;
        for (int cell = 0; cell < row.length; cell++) {
            sum += row[cell];
        }
        return sum;
    }

    private static int dryIn(int[] row) {
        int dry = 0;
        for (int cell = 0; cell < row.length; cell++) {
            if (row[cell] == 0) {
                dry++;
            }
        }
        return dry;
    }

    private static void copyRow(int[] from, int[] to) {
        for (int i = 0; i < from.length && i < to.length; i++) {
            to[i] = from[i];
        }
    }

    /** The letters that came and are not read yet. */
    private static final class Page {
        private final int[] codes = new int[MOST_LETTERS];
        private int size = 0;

        boolean append(int code) {
            if (size < 0 || size >= codes.length) {
                return false;
            }
            codes[size] = code;
            size++;
            return true;
        }

        int codeAt(int place) {
            return place >= 0 && place < codes.length ? codes[place] : 0;
        }

        int digitAt(int place) {
            return codeAt(place) - '0';
        }

        int kindAt(int place) {
            return KIND_LETTERS.indexOf((char) codeAt(place));
        }

        boolean isLeaf() {
            return size % LETTERS_TO_NEXT == LETTERS_OF_STROKE && firstFault() == size;
        }

        int firstFault() {
            for (int place = 0; place < size; place++) {
                if (!canStandAt(place)) {
                    return place;
                }
            }
            return size;
        }

        private boolean canStandAt(int place) {
            if (place >= LONGEST_LEAF) {
                return false;
            }
            int digit = digitAt(place);
            switch (place % LETTERS_TO_NEXT) {
                case 0: return kindAt(place) >= 0;
                case 1: return digit >= 0 && digit < CELLS;
                case 2: return digit >= 1 && digit <= LONGEST;
                case 3: return digit >= 1 && digit <= HEAVIEST;
                default: return codeAt(place) == ',';
            }
        }
    }

    /** A stroke as it was written; whether it is sanded stands in the State, as an image keeps that. */
    private static final class Stroke {
        private final int written;
        private int kind = STROKE;
        private int first = 0;
        private int cells = 0;
        private int press = 0;

        Stroke(int minute) {
            written = minute;
        }

        void become(int newKind, int cell, int length, int newPress) {
            kind = newKind;
            first = cell;
            cells = Math.min(length, CELLS - cell);
            press = newPress;
        }

        boolean isA(int asked) {
            return asked == STROKE || asked == kind || (asked == BLOT && kind == TEAR);
        }

        /** How wet it is at the minute, unsanded, if pressed so. */
        int wetAt(int minute, int pressed) {
            int later = minute - written;
            if (later < 0) {
                return 0;
            }
            switch (kind) {
                case QUICK: return Math.max(0, pressed - later / 2);
                case FAINT: return Math.max(0, pressed - 3 * later);
                case TEAR: return Math.max(0, pressed + 3 - later);
                default: return Math.max(0, pressed - later);
            }
        }

        /** How much comes off it at a cell of the leaf, when it is so wet. */
        int givesTo(int cell, int wetness) {
            int behind = first + cells;
            if (cell >= first && cell < behind) {
                return wetness;
            }
            boolean isBeside = cell == first - 1 || cell == behind;
            return isBeside && isA(BLOT) ? wetness / 2 : 0;
        }
    }

    /** What an image keeps. */
    private static final class State {
        private int strokes = 0;
        private int sanded = 0;
        private int evenings = 0;
        private int found = 0;
        private final int[] inkRow = new int[CELLS];
        private final int[] foundCell = new int[MOST_FOUND];
        private final int[] foundMinute = new int[MOST_FOUND];
        private final int[] foundMuch = new int[MOST_FOUND];

        void begin(int strokesRead) {
            strokes = strokesRead;
            sanded = 0;
            evenings = 0;
            found = 0;
            for (int cell = 0; cell < inkRow.length; cell++) {
                inkRow[cell] = 0;
            }
        }

        boolean isSanded(int stroke) {
            return (sanded >> stroke & 1) == 1;
        }

        void putSanded(int stroke, boolean is) {
            int bit = 1 << stroke;
            sanded = is ? sanded | bit : sanded & ~bit;
        }

        boolean addFound(int cell, int minute, int much) {
            if (found < 0 || found >= MOST_FOUND) {
                return false;
            }
            foundCell[found] = cell;
            foundMinute[found] = minute;
            foundMuch[found] = much;
            found++;
            return true;
        }

        void copyFrom(State other) {
            strokes = other.strokes;
            sanded = other.sanded;
            evenings = other.evenings;
            found = other.found;
            copyRow(other.inkRow, inkRow);
            copyRow(other.foundCell, foundCell);
            copyRow(other.foundMinute, foundMinute);
            copyRow(other.foundMuch, foundMuch);
        }
    }
}
