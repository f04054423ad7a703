/** Promises 21 to 24: image, restore, count, digest. */
public final class AllTest {
    private static final Due DUE = new Due();

    public static void main(String[] args) {
        image();
        restore();
        restoreRefused();
        restoreAndStrokes();
        count();
        countRefused();
        digestOfALeaf();
        digestInAllStates();
        DUE.end("AllTest");
    }

    private static void image() {
        BlotLand x = Due.leaf("s059,t511");
        DUE.is("image() ahead of an evening", x.image(), 0);
        x.evening(2);
        x.evening(3);
        long before = x.digest();
        DUE.is("image() of two evenings", x.image(), 2);
        DUE.is("image() changes nothing else: digest()", x.digest(), before);
        x.evening(4);
        DUE.is("restore() of the latest image", x.restore(), 2);
        BlotLand none = new BlotLand();
        DUE.refused(none, "no leaf: image()", none::image, BlotLand.STATE);
        Due.type(none, "s011");
        DUE.refused(none, "a page alone: image()", none::image, BlotLand.STATE);
        DUE.is("no leaf: restore() behind a refused image()", none.restore(), BlotLand.STATE);
    }

    private static void restore() {
        BlotLand x = Due.leaf("s059,t511");
        x.evening(2);
        x.sand(0, true);
        x.found(4, 2, 3);
        x.image();
        long before = x.digest();
        x.evening(1);
        x.evening(3);
        x.sand(0, false);
        x.sand(1, true);
        x.forget();
        x.found(0, 0, 1);
        x.found(0, 0, 2);
        x.write(1, 0, 5, 9);
        DUE.is("restore()", x.restore(), 1);
        DUE.inkIs(x, "restored", 0, 0, 0, 1, 3, 8, 7, 7, 7, 7);
        int[] want = {2, 1, 1, 40, 3, 1, 0, 1};
        for (int what = 0; what <= 7; what++) {
            DUE.is("restored: count(" + what + ")", x.count(what), want[what]);
        }
        DUE.is("restored: about(0, 4)", x.about(0, 4), 1);
        DUE.is("restored: about(1, 4)", x.about(1, 4), 0);
        DUE.is("restored: about(1, 5), by what was found then", x.about(1, 5), 1);
        DUE.is("restored: about(2, 0)", x.about(2, 0), BlotLand.UNKNOWN);
        DUE.is("restored: digest()", x.digest(), before);
        x.evening(0);
        DUE.is("the image stays: restore()", x.restore(), 1);
        DUE.is("the image stays: digest()", x.digest(), before);
        Due.type(x, "s0");
        x.restore();
        DUE.is("the page is not of the image: count(6)", x.count(6), 2);
    }

    private static void restoreRefused() {
        BlotLand x = Due.leaf("s059,t511");
        DUE.refused(x, "none was kept: restore()", x::restore, BlotLand.STATE);
        x.evening(0);
        x.image();
        Due.type(x, "s059");
        DUE.is("a page was begun alone: restore()", x.restore(), 1);
        x.leaf();
        DUE.refused(x, "another leaf was read: restore()", x::restore, BlotLand.STATE);
        x.image();
        Due.type(x, "s059");
        x.leaf();
        DUE.refused(x, "the same leaf was read: restore()", x::restore, BlotLand.STATE);
        x.evening(1);
        DUE.is("image() of the new leaf", x.image(), 1);
        DUE.is("restore() of the new leaf", x.restore(), 1);
        DUE.is("count(7) is not of the image", x.count(7), 3);
        BlotLand none = new BlotLand();
        DUE.refused(none, "no leaf: restore()", none::restore, BlotLand.STATE);
    }

    private static void restoreAndStrokes() {
        BlotLand x = Due.leaf("s011");
        x.write(2, 3, 1, 5);
        x.image();
        x.write(1, 7, 2, 9);
        x.sand(2, true);
        x.restore();
        DUE.is("the number is free again: write(3, 0, 1, 4)", x.write(3, 0, 1, 4), 2);
        DUE.is("a new stroke is not sanded: about(2, 4)", x.about(2, 4), 0);
        DUE.is("a new stroke: about(2, 0)", x.about(2, 0), 3);
        DUE.is("the image's strokes are as they were: about(1, 1)", x.about(1, 1), 3);
        x.restore();
        DUE.is("restore() once more: count(0)", x.count(0), 2);
        for (int k = 2; k <= 5; k++) {
            DUE.is("up to six again: write()", x.write(0, k, 1, 1), k);
        }
        DUE.is("six: write()", x.write(0, 0, 1, 1), BlotLand.FULL);
    }

    private static void count() {
        BlotLand x = Due.leaf("s024,b911");
        x.write(2, 5, 1, 3);
        x.evening(1);
        x.evening(2);
        x.sand(1, true);
        x.sand(2, true);
        x.found(0, 0, 0);
        Due.type(x, "xyz");
        // The two evenings press 3 + 3 and 1, then 2 + 2 and 3.
        countIs(x, 3, 2, 2, 14, 6, 1, 3, 1);
        x.sand(2, false);
        x.forget();
        x.blank();
        x.years(60, 1, 0);
        countIs(x, 3, 1, 2, 14, 6, 0, 0, 1);
        Due.type(x, "s0111");
        x.leaf();
        countIs(x, 3, 1, 2, 14, 6, 0, 5, 1);
        x.blank();
        Due.type(x, "s011");
        x.leaf();
        countIs(x, 1, 0, 0, 0, 10, 0, 0, 2);
    }

    private static void countIs(BlotLand x, int... want) {
        for (int what = 0; what <= 7; what++) {
            DUE.is("count(" + what + ")", x.count(what), want[what]);
        }
    }

    private static void countRefused() {
        BlotLand x = Due.leaf("s024");
        BlotLand none = new BlotLand();
        int[] outside = {-1, 8, Integer.MIN_VALUE, Integer.MAX_VALUE};
        for (int what : outside) {
            DUE.refused(x, "count(" + what + ")", () -> x.count(what), BlotLand.OUTSIDE);
            DUE.refused(none, "no leaf: count(" + what + ")", () -> none.count(what), BlotLand.OUTSIDE);
        }
    }

    private static void digestOfALeaf() {
        // Of one faint stroke at cell 2 for three cells with press 9, each number written out by hand.
        long[] numbers = {
            3, 2, 3, 9, 0, 511, 0, 0, 0,
            0, 0, 0, 0, 0, 0, 0, 0, 0, 0, 0, 0, 0, 0, 0, 0, 0, 0, 0, 0,
            0, 0, 0,
            's', '~',
            1, 0, 0, 0, 10, 0, 2, 1,
        };
        BlotLand faint = Due.leaf("f239");
        Due.type(faint, "s~");
        DUE.is("digest() of f239", faint.digest(), mixed(numbers));
        // Of one blot at cell 5 with press 8, behind an evening at minute 2.
        long[] blot = {
            1, 5, 1, 8, 0, 511, 5, 0, 4,
            0, 0, 0, 0, 0, 0, 3, 2, 6, 4, 3, 2, 0, 0, 0, 0, 0, 0, 0, 0,
            1, 1, 1,
            1, 0, 1, 12, 7, 0, 0, 1,
        };
        BlotLand x = Due.leaf("b518");
        x.evening(2);
        DUE.is("digest() of b518", x.digest(), mixed(blot));
        DUE.is("digest() changes nothing: digest()", x.digest(), mixed(blot));
        // Ink of 4, 5 and 6 in rows of their own, so that the INK that HILLS are told for counts.
        BlotLand rows = Due.leaf("q015,q216,s515");
        rows.evening(2);
        long[] ofRows = {
            2, 0, 1, 5, 0, 511, 4, 1, 9,
            2, 2, 1, 6, 0, 511, 5, 2, 7,
            0, 5, 1, 5, 0, 511, 4, 0, 4,
            0, 0, 0, 0, 0, 0, 0, 0, 5, 3, 0, 0, 0, 0, 6, 5, 0, 0, 4, 3,
            2, 3, 7,
            3, 0, 1, 15, 7, 0, 0, 1,
        };
        DUE.is("hills(4)", rows.hills(4), 3);
        DUE.is("hills(6)", rows.hills(6), 1);
        DUE.is("digest() of rows", rows.digest(), mixed(ofRows));
        BlotLand page = Due.page("s~");
        DUE.is("digest() of a page", page.digest(), mixed(new long[] {'s', '~', 0, 0, 0, 0, 0, 0, 2, 0}));
    }

    private static long mixed(long[] numbers) {
        long h = 1049;
        for (long number : numbers) {
            h = 31 * h + number;
        }
        return h;
    }

    private static void digestInAllStates() {
        BlotLand x = new BlotLand();
        digestIs(x);
        Due.type(x, "q859,t219");
        digestIs(x);
        x.leaf();
        digestIs(x);
        x.write(1, 4, 2, 9);
        x.evening(3);
        digestIs(x);
        x.found(5, 3, 5);
        x.sand(0, true);
        Due.type(x, "b0");
        digestIs(x);
        x.found(9, 0, 99);
        digestIs(x);
        // Faint strokes that are dry, and not yet dry, at minute 6, so that the minute of LOOK counts.
        x.write(3, 0, 5, 9);
        x.write(3, 3, 3, 9);
        x.write(0, 5, 5, 9);
        for (int i = 0; i < 10; i++) {
            x.evening(5);
        }
        x.forget();
        digestIs(x);
    }

    private static void digestIs(BlotLand x) {
        long h = 1049;
        for (int k = 0; k < x.count(0); k++) {
            for (int what = 0; what <= 5; what++) {
                h = 31 * h + x.about(k, what);
            }
            h = 31 * (31 * (31 * h + x.wet(k, 3)) + x.wet(k, 9)) + x.look(k, 6);
        }
        if (x.count(0) > 0) {
            for (int cell = 0; cell <= 9; cell++) {
                h = 31 * (31 * h + x.ink(cell)) + x.comes(cell, 4);
            }
            h = 31 * (31 * (31 * h + x.hills(5)) + x.toSand(4, 1023, 0)) + x.toSand(4, 1023, 1);
        }
        String page = x.count(6) == 0 ? "" : x.count(7) == 0 ? "q859,t219" : "b0";
        for (int i = 0; i < page.length(); i++) {
            h = 31 * h + page.charAt(i);
        }
        for (int what = 0; what <= 7; what++) {
            h = 31 * h + x.count(what);
        }
        DUE.is("digest()", x.digest(), h);
    }
}
