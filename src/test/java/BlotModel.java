import java.math.BigInteger;
import java.util.ArrayList;
import java.util.HashMap;
import java.util.HashSet;
import java.util.List;
import java.util.Map;
import java.util.Set;
import java.util.regex.Matcher;
import java.util.regex.Pattern;

/** The document told a second time, by trying all that could be, to be compared with the class over long runs. */
final class BlotModel {
    private static final String STROKE_FORM = "[sbqft][0-9][1-5][1-9]";
    private static final Pattern LEAF_FORM = Pattern.compile(STROKE_FORM + "(," + STROKE_FORM + "){0,3}");

    record Stroke(char kind, int begins, int ends, int press, boolean sanded) {
        Stroke withPress(int other) {
            return new Stroke(kind, begins, ends, other, sanded);
        }

        Stroke withSand(boolean is) {
            return new Stroke(kind, begins, ends, press, is);
        }

        int wetBehind(int minutes) {
            if (minutes < 0 || sanded) {
                return 0;
            }
            int wet = kind == 't' ? press + 3 : press;
            for (int i = 1; i <= minutes; i++) {
                wet -= kind == 'f' ? 3 : kind == 'q' ? (i % 2 == 0 ? 1 : 0) : 1;
            }
            return wet < 0 ? 0 : wet;
        }

        boolean isBlot() {
            return kind == 'b' || kind == 't';
        }
    }

    record Found(int cell, int minute, int much) { }

    record Image(List<Boolean> sanded, int[] land, int evenings, List<Found> found) { }

    private final StringBuilder page = new StringBuilder();
    private List<Stroke> leaf = new ArrayList<>();
    private int[] land = new int[10];
    private List<Found> finds = new ArrayList<>();
    private int evenings = 0;
    private int reads = 0;
    private Image image = null;

    int letter(int code) {
        if (code < 32 || code > 126) {
            return -102;
        }
        if (page.length() == 21) {
            return -104;
        }
        page.append((char) code);
        return page.length();
    }

    int blank() {
        int had = page.length();
        page.setLength(0);
        return had;
    }

    int fault() {
        for (int size = 1; size <= page.length(); size++) {
            Matcher matcher = LEAF_FORM.matcher(page.substring(0, size));
            if (!matcher.matches() && !matcher.hitEnd()) {
                return size - 1;
            }
        }
        return page.length();
    }

    int leaf() {
        if (!LEAF_FORM.matcher(page).matches()) {
            return -103;
        }
        leaf = new ArrayList<>();
        for (String text : page.toString().split(",")) {
            leaf.add(stroke(text.charAt(0), text.charAt(1) - 48, text.charAt(2) - 48, text.charAt(3) - 48));
        }
        land = new int[10];
        finds = new ArrayList<>();
        evenings = 0;
        image = null;
        reads++;
        page.setLength(0);
        return leaf.size();
    }

    private static Stroke stroke(char kind, int cell, int length, int press) {
        int ends = cell;
        while (ends < 9 && ends - cell + 1 < length) {
            ends++;
        }
        return new Stroke(kind, cell, ends, press, false);
    }

    int about(int k, int what) {
        if (noStroke(k)) {
            return -101;
        }
        if (what < 0 || what > 5) {
            return -102;
        }
        Stroke s = leaf.get(k);
        int[] all = {"sbqft".indexOf(s.kind), s.begins, s.ends - s.begins + 1, s.press, s.sanded ? 1 : 0, 0};
        for (int press : heavy(k)) {
            all[5] += BigInteger.TWO.pow(press - 1).intValue();
        }
        return all[what];
    }

    int as(int k, int kind) {
        if (noStroke(k)) {
            return -101;
        }
        if (kind < 0 || kind > 4) {
            return -102;
        }
        String kinds = Map.of('s', "0", 'b', "01", 'q', "02", 'f', "03", 't', "014").get(leaf.get(k).kind);
        return kinds.contains("" + kind) ? k : -1;
    }

    int write(int kind, int cell, int length, int press) {
        if (out(kind, 0, 4) || out(cell, 0, 9) || out(length, 1, 5) || out(press, 1, 9)) {
            return -102;
        }
        if (leaf.isEmpty()) {
            return -103;
        }
        if (leaf.size() == 6) {
            return -104;
        }
        leaf.add(stroke("sbqft".charAt(kind), cell, length, press));
        return leaf.size() - 1;
    }

    int sand(int k, boolean is) {
        if (noStroke(k)) {
            return -101;
        }
        int was = leaf.get(k).sanded ? 1 : 0;
        leaf.set(k, leaf.get(k).withSand(is));
        return was;
    }

    int wet(int k, int minute) {
        return noStroke(k) ? -101 : out(minute, 0, 20) ? -102 : leaf.get(k).wetBehind(minute - k);
    }

    int ink(int cell) {
        return noCell(cell) ? -101 : land[cell];
    }

    int comes(int cell, int minute) {
        return noCell(cell) ? -101 : out(minute, 0, 20) ? -102 : pressed(leaf, minute)[cell];
    }

    int evening(int minute) {
        if (out(minute, 0, 20)) {
            return -102;
        }
        if (leaf.isEmpty()) {
            return -103;
        }
        evenings++;
        int all = 0;
        for (int more : pressed(leaf, minute)) {
            all += more;
        }
        land = after(land, minute);
        return all;
    }

    int hills(int much) {
        if (out(much, 1, 99)) {
            return -102;
        }
        if (leaf.isEmpty()) {
            return -103;
        }
        StringBuilder heights = new StringBuilder();
        for (int has : land) {
            heights.append(has >= much ? 'h' : '.');
        }
        return (int) Pattern.compile("h+").matcher(heights).results().count();
    }

    int close(int cell, int much) {
        if (noCell(cell)) {
            return -101;
        }
        if (out(much, 0, 99)) {
            return -102;
        }
        int first = -1;
        for (int minute = 20; minute >= 0; minute--) {
            first = pressed(leaf, minute)[cell] == much ? minute : first;
        }
        return first;
    }

    int toSand(int minute, int cells, int what) {
        if (out(minute, 0, 20) || out(cells, 0, 1023) || out(what, 0, 1)) {
            return -102;
        }
        if (leaf.isEmpty()) {
            return -103;
        }
        int best = -1;
        for (int bits = 0; bits < 1 << leaf.size(); bits++) {
            boolean isBetter = best < 0 || Integer.bitCount(bits) < Integer.bitCount(best);
            if (isBetter && keepsDry(bits, minute, cells)) {
                best = bits;
            }
        }
        return what == 0 ? Integer.bitCount(best) : best;
    }

    private boolean keepsDry(int bits, int minute, int cells) {
        List<Stroke> other = new ArrayList<>(leaf);
        for (int k = 0; k < leaf.size(); k++) {
            if ((bits & 1 << k) != 0) {
                if (leaf.get(k).sanded) {
                    return false;
                }
                other.set(k, leaf.get(k).withSand(true));
            }
        }
        int[] row = pressed(other, minute);
        for (int cell = 0; cell < 10; cell++) {
            if ((cells & 1 << cell) != 0 && row[cell] != 0) {
                return false;
            }
        }
        return true;
    }

    int found(int cell, int minute, int much) {
        if (noCell(cell)) {
            return -101;
        }
        if (out(minute, 0, 20) || out(much, 0, 99)) {
            return -102;
        }
        if (finds.size() == 6) {
            return -104;
        }
        finds.add(new Found(cell, minute, much));
        return finds.size();
    }

    int forget() {
        int had = finds.size();
        finds = new ArrayList<>();
        return had;
    }

    int look(int k, int minute) {
        if (noStroke(k)) {
            return -101;
        }
        if (out(minute, 0, 20)) {
            return -102;
        }
        Set<Integer> presses = heavy(k);
        int best = -1;
        int fewest = Integer.MAX_VALUE;
        for (int cell = 0; cell < 10 && !presses.isEmpty(); cell++) {
            Map<Integer, Integer> left = new HashMap<>();
            for (int press : presses) {
                left.merge(pressed(leafWith(k, press), minute)[cell], 1, Integer::sum);
            }
            int worst = left.values().stream().max(Integer::compare).get();
            if (worst < fewest) {
                fewest = worst;
                best = cell;
            }
        }
        return best;
    }

    int years(int many, int seed, int what) {
        if (out(many, 1, 60) || seed < 0 || out(what, 0, 2)) {
            return -102;
        }
        if (leaf.isEmpty()) {
            return -103;
        }
        BigInteger drawn = BigInteger.valueOf(seed);
        int[] row = land;
        for (int i = 0; i < many; i++) {
            drawn = drawn.multiply(BigInteger.valueOf(1103515245)).add(BigInteger.valueOf(12345))
                .mod(BigInteger.TWO.pow(31));
            row = after(row, drawn.divide(BigInteger.valueOf(65536)).mod(BigInteger.valueOf(21)).intValue());
        }
        return new int[] {sum(row), dry(row), drawn.intValueExact()}[what];
    }

    int image() {
        if (leaf.isEmpty()) {
            return -103;
        }
        List<Boolean> sanded = new ArrayList<>();
        for (Stroke each : leaf) {
            sanded.add(each.sanded);
        }
        image = new Image(sanded, land.clone(), evenings, new ArrayList<>(finds));
        return evenings;
    }

    int restore() {
        if (image == null) {
            return -103;
        }
        while (leaf.size() > image.sanded.size()) {
            leaf.remove(leaf.size() - 1);
        }
        for (int k = 0; k < leaf.size(); k++) {
            leaf.set(k, leaf.get(k).withSand(image.sanded.get(k)));
        }
        land = image.land.clone();
        evenings = image.evenings;
        finds = new ArrayList<>(image.found);
        return evenings;
    }

    int count(int what) {
        if (out(what, 0, 7)) {
            return -102;
        }
        int sanded = (int) leaf.stream().filter(Stroke::sanded).count();
        int dry = leaf.isEmpty() ? 0 : dry(land);
        return new int[] {leaf.size(), sanded, evenings, sum(land), dry, finds.size(), page.length(), reads}[what];
    }

    long digest() {
        List<Integer> numbers = new ArrayList<>();
        for (int k = 0; k < leaf.size(); k++) {
            for (int what = 0; what <= 5; what++) {
                numbers.add(about(k, what));
            }
            numbers.addAll(List.of(wet(k, 3), wet(k, 9), look(k, 6)));
        }
        if (!leaf.isEmpty()) {
            for (int cell = 0; cell < 10; cell++) {
                numbers.addAll(List.of(ink(cell), comes(cell, 4)));
            }
            numbers.addAll(List.of(hills(5), toSand(4, 1023, 0), toSand(4, 1023, 1)));
        }
        page.chars().forEach(numbers::add);
        for (int what = 0; what <= 7; what++) {
            numbers.add(count(what));
        }
        long h = 1049;
        for (int number : numbers) {
            h = h * 31 + number;
        }
        return h;
    }

    private static boolean out(int number, int least, int most) {
        return number < least || number > most;
    }

    private boolean noStroke(int k) {
        return k < 0 || k >= leaf.size();
    }

    private boolean noCell(int cell) {
        return leaf.isEmpty() || out(cell, 0, 9);
    }

    private static int sum(int[] row) {
        int all = 0;
        for (int has : row) {
            all += has;
        }
        return all;
    }

    private static int dry(int[] row) {
        int many = 0;
        for (int has : row) {
            many += has == 0 ? 1 : 0;
        }
        return many;
    }

    private int[] after(int[] row, int minute) {
        int[] next = pressed(leaf, minute);
        for (int cell = 0; cell < 10; cell++) {
            next[cell] = Math.min(99, next[cell] + row[cell]);
        }
        return next;
    }

    private static int[] pressed(List<Stroke> strokes, int minute) {
        int[] backwards = new int[10];
        for (int k = 0; k < strokes.size(); k++) {
            Stroke each = strokes.get(k);
            int wet = each.wetBehind(minute - k);
            for (int cell = each.begins; cell <= each.ends; cell++) {
                backwards[9 - cell] += wet;
            }
            if (each.isBlot() && each.begins > 0) {
                backwards[10 - each.begins] += wet / 2;
            }
            if (each.isBlot() && each.ends < 9) {
                backwards[8 - each.ends] += wet / 2;
            }
        }
        return backwards;
    }

    private List<Stroke> leafWith(int k, int press) {
        List<Stroke> other = new ArrayList<>(leaf);
        other.set(k, leaf.get(k).withPress(press));
        return other;
    }

    private Set<Integer> heavy(int k) {
        Set<Integer> presses = new HashSet<>();
        for (int press = 1; press <= 9; press++) {
            List<Stroke> other = leafWith(k, press);
            boolean isSo = true;
            for (Found each : finds) {
                isSo &= pressed(other, each.minute)[each.cell] == each.much;
            }
            if (isSo) {
                presses.add(press);
            }
        }
        return presses;
    }
}
