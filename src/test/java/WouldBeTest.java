/** Promises 15 and 16: close, toSand. */
public final class WouldBeTest {
    private static final Due DUE = new Due();
    private static final int[] NO_MINUTES = {-1, 21, Integer.MIN_VALUE, Integer.MAX_VALUE};

    public static void main(String[] args) {
        close();
        closeRefused();
        toSand();
        toSandChangesNothing();
        toSandRefused();
        DUE.end("WouldBeTest");
    }

    private static void close() {
        BlotLand x = Due.leaf("f239,b524,q719");
        DUE.is("at once: close(7, 9)", x.close(7, 9), 0);
        DUE.is("faint, by three: close(7, 6)", x.close(7, 6), 1);
        DUE.is("not to be had: close(7, 8)", x.close(7, 8), BlotLand.NONE);
        DUE.is("two together: close(5, 4)", x.close(5, 4), 2);
        DUE.is("the first, ahead of a stroke: close(2, 0)", x.close(2, 0), 0);
        DUE.is("the first of two minutes: close(2, 8)", x.close(2, 8), 4);
        DUE.is("a blot's edge and a stroke: close(2, 10)", x.close(2, 10), 2);
        DUE.is("at the last minutes: close(2, 1)", x.close(2, 1), 18);
        DUE.is("nothing ever comes: close(0, 0)", x.close(0, 0), 0);
        DUE.is("nothing ever comes: close(0, 1)", x.close(0, 1), BlotLand.NONE);
        DUE.is("close(2, 99)", x.close(2, 99), BlotLand.NONE);
        x.sand(2, true);
        DUE.is("sanded: close(2, 8)", x.close(2, 8), BlotLand.NONE);
        BlotLand late = Due.leaf("s011,s011,s011,q019");
        late.write(2, 5, 1, 9);
        late.write(2, 5, 1, 9);
        late.sand(4, true);
        DUE.is("minute 20 too: close(4, 2)", late.close(4, 2), 19);
        late.sand(4, false);
        late.sand(5, true);
        DUE.is("minute 20 alone: close(4, 1)", late.close(4, 1), 20);
        BlotLand full = Due.leaf("s919");
        for (int i = 0; i < 12; i++) {
            full.evening(0);
        }
        DUE.is("what would come, not what there is room for: close(0, 9)", full.close(0, 9), 0);
    }

    private static void closeRefused() {
        BlotLand x = Due.leaf("f239");
        BlotLand none = new BlotLand();
        int[] outside = {-1, 100, Integer.MIN_VALUE, Integer.MAX_VALUE};
        int[] unknown = {-1, 10, Integer.MIN_VALUE, Integer.MAX_VALUE};
        for (int cell : unknown) {
            DUE.refused(x, "close(" + cell + ", 0)", () -> x.close(cell, 0), BlotLand.UNKNOWN);
            DUE.refused(x, "close(" + cell + ", 100)", () -> x.close(cell, 100), BlotLand.UNKNOWN);
        }
        for (int much : outside) {
            DUE.refused(x, "close(0, " + much + ")", () -> x.close(0, much), BlotLand.OUTSIDE);
            DUE.refused(none, "no leaf: close(0, " + much + ")", () -> none.close(0, much), BlotLand.UNKNOWN);
        }
    }

    private static void toSand() {
        // At minute 3 stroke 0 reaches the lands 9 to 7, the blot 1 those from 8 to 6, 2 the lands 4 and 3, and 3 land 9.
        BlotLand x = Due.leaf("s036,b217,q529,s019");
        toSandIs(x, 3, 0, 0);
        toSandIs(x, 3, 512, 1 + 8);
        toSandIs(x, 3, 256, 1 + 2);
        toSandIs(x, 3, 128, 1 + 2);
        toSandIs(x, 3, 64, 2);
        toSandIs(x, 3, 32, 0);
        toSandIs(x, 3, 16, 4);
        toSandIs(x, 3, 8, 4);
        toSandIs(x, 3, 1 + 2 + 4, 0);
        toSandIs(x, 3, 512 + 8, 1 + 4 + 8);
        toSandIs(x, 3, 512 + 64, 1 + 2 + 8);
        toSandIs(x, 3, 1023, 1 + 2 + 4 + 8);
        toSandIs(x, 0, 1023, 1);
        toSandIs(x, 2, 512, 1);
        toSandIs(x, 2, 1023, 1 + 2 + 4);
        toSandIs(x, 6, 512, 8);
        toSandIs(x, 20, 1023, 0);
        x.sand(1, true);
        toSandIs(x, 3, 1023, 1 + 4 + 8);
        toSandIs(x, 3, 64, 0);
        BlotLand edge = Due.leaf("b512,b511");
        toSandIs(edge, 0, 32, 1);
        toSandIs(edge, 1, 32, 0);
        toSandIs(edge, 1, 16, 1 + 2);
        BlotLand ends = Due.leaf("s011,b815,s411");
        toSandIs(ends, 2, 1, 2);
        toSandIs(ends, 0, 512, 1);
        BlotLand six = Due.leaf("t019,t019,t019,t019");
        six.write(4, 0, 1, 9);
        six.write(4, 0, 1, 9);
        toSandIs(six, 5, 256, 63);
    }

    private static void toSandIs(BlotLand x, int minute, int cells, int bits) {
        DUE.is("toSand(" + minute + ", " + cells + ", 1)", x.toSand(minute, cells, 1), bits);
        DUE.is("toSand(" + minute + ", " + cells + ", 0)", x.toSand(minute, cells, 0), Integer.bitCount(bits));
    }

    private static void toSandChangesNothing() {
        BlotLand x = Due.leaf("s036,b217");
        long before = x.digest();
        x.toSand(3, 1023, 1);
        DUE.is("toSand() sands nothing: digest()", x.digest(), before);
        DUE.is("toSand() sands nothing: count(1)", x.count(1), 0);
    }

    private static void toSandRefused() {
        BlotLand x = Due.leaf("s036");
        BlotLand none = new BlotLand();
        for (int minute : NO_MINUTES) {
            outside(x, none, minute, 0, 0);
        }
        int[] noCells = {-1, 1024, Integer.MIN_VALUE, Integer.MAX_VALUE};
        for (int cells : noCells) {
            outside(x, none, 0, cells, 0);
        }
        int[] noWhat = {-1, 2, Integer.MIN_VALUE, Integer.MAX_VALUE};
        for (int what : noWhat) {
            outside(x, none, 0, 0, what);
        }
        DUE.refused(none, "no leaf: toSand(0, 0, 0)", () -> none.toSand(0, 0, 0), BlotLand.STATE);
        DUE.refused(none, "no leaf: toSand(20, 1023, 1)", () -> none.toSand(20, 1023, 1), BlotLand.STATE);
    }

    private static void outside(BlotLand x, BlotLand none, int minute, int cells, int what) {
        String call = "toSand(" + minute + ", " + cells + ", " + what + ")";
        DUE.refused(x, call, () -> x.toSand(minute, cells, what), BlotLand.OUTSIDE);
        DUE.refused(none, "no leaf: " + call, () -> none.toSand(minute, cells, what), BlotLand.OUTSIDE);
    }
}
