/** All that can be told of an object, as a text; the object is not to be used any more then, as its calls are spent. */
final class Snapshot {
    private static final int[] MINUTES = {0, 2, 5, 9, 20};

    private final StringBuilder all = new StringBuilder();

    static String of(BlotLand x) {
        Snapshot told = new Snapshot();
        told.counts(x);
        for (int k = 0; k <= 5; k++) {
            told.stroke(x, k);
        }
        for (int cell = 0; cell <= 9; cell++) {
            told.cell(x, cell);
        }
        told.add(x.hills(1), x.hills(9), x.hills(99), x.years(9, 5, 0), x.years(9, 5, 1));
        // Only restore() shows what the image keeps, and only leaf() whether THE PAGE is still the same LEAF.
        told.add(x.restore());
        told.counts(x);
        for (int cell = 0; cell <= 9; cell++) {
            told.add(x.ink(cell), x.comes(cell, 5));
        }
        told.add(x.leaf());
        told.counts(x);
        return told.all.toString();
    }

    private void counts(BlotLand x) {
        for (int what = 0; what <= 7; what++) {
            add(x.count(what));
        }
        add(x.fault(), x.digest());
    }

    private void stroke(BlotLand x, int k) {
        for (int what = 0; what <= 5; what++) {
            add(x.about(k, what));
        }
        for (int minute = 0; minute <= 20; minute++) {
            add(x.wet(k, minute));
        }
        add(x.look(k, 2), x.look(k, 9));
    }

    private void cell(BlotLand x, int cell) {
        add(x.ink(cell));
        for (int minute : MINUTES) {
            add(x.comes(cell, minute));
        }
    }

    private void add(long... numbers) {
        for (long number : numbers) {
            all.append(number).append(' ');
        }
    }
}
