/** Promises 17 to 20: found, forget, look, years. */
public final class FoundTest {
    private static final Due DUE = new Due();
    private static final int[] NO_MINUTES = {-1, 21, Integer.MIN_VALUE, Integer.MAX_VALUE};

    public static void main(String[] args) {
        found();
        foundRefused();
        forget();
        look();
        lookWithFound();
        lookRefused();
        years();
        yearsOnTheLand();
        yearsRefused();
        DUE.end("FoundTest");
    }

    private static void found() {
        BlotLand x = Due.leaf("b415,s724");
        DUE.is("found(5, 0, 5)", x.found(5, 0, 5), 1);
        DUE.is("what is FOUND counts: about(0, 5)", x.about(0, 5), 16);
        DUE.is("the same again: found(5, 0, 5)", x.found(5, 0, 5), 2);
        DUE.is("at the edges: found(0, 20, 99)", x.found(0, 20, 99), 3);
        DUE.is("at the edges: found(9, 0, 0)", x.found(9, 0, 0), 4);
        DUE.is("found(9, 20, 99)", x.found(9, 20, 99), 5);
        DUE.is("found(1, 1, 1)", x.found(1, 1, 1), 6);
        DUE.is("count(5)", x.count(5), 6);
        DUE.is("it is told, not pressed off: count(3)", x.count(3), 0);
        DUE.refused(x, "found a seventh time", () -> x.found(5, 0, 5), BlotLand.FULL);
        DUE.refused(x, "full: found(10, 0, 0)", () -> x.found(10, 0, 0), BlotLand.UNKNOWN);
        DUE.refused(x, "full: found(0, 21, 0)", () -> x.found(0, 21, 0), BlotLand.OUTSIDE);
        DUE.refused(x, "full: found(0, 0, 100)", () -> x.found(0, 0, 100), BlotLand.OUTSIDE);
        BlotLand each = Due.leaf("s019");
        for (int i = 0; i < 5; i++) {
            each.found(9, 0, 7);
        }
        DUE.is("five alike: about(0, 5)", each.about(0, 5), 64);
        each.found(9, 1, 7);
        DUE.is("the sixth counts: about(0, 5)", each.about(0, 5), 0);
    }

    private static void foundRefused() {
        BlotLand x = Due.leaf("b415");
        BlotLand none = new BlotLand();
        int[] unknown = {-1, 10, Integer.MIN_VALUE, Integer.MAX_VALUE};
        for (int cell : unknown) {
            DUE.refused(x, "found(" + cell + ", 0, 0)", () -> x.found(cell, 0, 0), BlotLand.UNKNOWN);
            DUE.refused(x, "found(" + cell + ", 21, 100)", () -> x.found(cell, 21, 100), BlotLand.UNKNOWN);
        }
        for (int minute : NO_MINUTES) {
            DUE.refused(x, "found(0, " + minute + ", 0)", () -> x.found(0, minute, 0), BlotLand.OUTSIDE);
            DUE.refused(none, "no leaf: found(0, " + minute + ", 0)", () -> none.found(0, minute, 0), BlotLand.UNKNOWN);
        }
        int[] noMuch = {-1, 100, Integer.MIN_VALUE, Integer.MAX_VALUE};
        for (int much : noMuch) {
            DUE.refused(x, "found(0, 0, " + much + ")", () -> x.found(0, 0, much), BlotLand.OUTSIDE);
        }
    }

    private static void forget() {
        BlotLand x = Due.leaf("s019");
        DUE.is("nothing yet: forget()", x.forget(), 0);
        x.found(9, 0, 3);
        x.found(9, 1, 5);
        DUE.is("ahead of forget(): about(0, 5)", x.about(0, 5), 0);
        DUE.is("forget()", x.forget(), 2);
        DUE.is("count(5)", x.count(5), 0);
        DUE.is("behind forget(): about(0, 5)", x.about(0, 5), 511);
        DUE.is("forget() again", x.forget(), 0);
        DUE.is("found(9, 1, 5) again", x.found(9, 1, 5), 1);
        DUE.is("what was forgotten does not count: about(0, 5)", x.about(0, 5), 32);
        for (int many = 2; many <= 6; many++) {
            x.found(9, 1, 5);
        }
        DUE.is("forget() of six", x.forget(), 6);
        DUE.is("forget() leaves the leaf: count(0)", x.count(0), 1);
    }

    private static void look() {
        DUE.is("the cell itself, not a blot's edge: look(0, 0)", Due.leaf("b517").look(0, 0), 4);
        DUE.is("of like ones the least: look(0, 0)", Due.leaf("s337").look(0, 0), 4);
        DUE.is("the fewest ahead of the least: look(0, 0)", Due.leaf("b017").look(0, 0), 9);
        DUE.is("one alone is still wet: look(0, 8)", Due.leaf("s017").look(0, 8), 9);
        DUE.is("none is wet any more: look(0, 9)", Due.leaf("s017").look(0, 9), 0);
        DUE.is("a faint one: look(0, 2)", Due.leaf("f119").look(0, 2), 8);
        DUE.is("a faint one, dry: look(0, 3)", Due.leaf("f119").look(0, 3), 0);
        DUE.is("a quick one: look(0, 17)", Due.leaf("q119").look(0, 17), 8);
        DUE.is("a quick one, dry: look(0, 18)", Due.leaf("q119").look(0, 18), 0);
        DUE.is("a tear: look(0, 11)", Due.leaf("t111").look(0, 11), 8);
        DUE.is("a tear, dry: look(0, 12)", Due.leaf("t111").look(0, 12), 0);
        BlotLand x = Due.leaf("s011,b717");
        DUE.is("ahead of its minute: look(1, 0)", x.look(1, 0), 0);
        DUE.is("at its minute: look(1, 1)", x.look(1, 1), 2);
        x.sand(1, true);
        DUE.is("sanded: look(1, 1)", x.look(1, 1), 0);
        DUE.is("another is sanded: look(0, 0)", x.look(0, 0), 9);
        DUE.is("LOOK finds nothing: count(5)", x.count(5), 0);
    }

    private static void lookWithFound() {
        BlotLand edge = Due.leaf("b017");
        edge.found(9, 2, 0);
        DUE.is("presses 1 and 2, an edge tells them: look(0, 0)", edge.look(0, 0), 8);
        DUE.is("an edge does not tell them: look(0, 1)", edge.look(0, 1), 9);
        edge.forget();
        edge.found(8, 0, 2);
        DUE.is("presses 4 and 5: look(0, 0)", edge.look(0, 0), 9);
        DUE.is("presses 4 and 5: look(0, 1)", edge.look(0, 1), 8);
        DUE.is("presses 4 and 5: look(0, 4)", edge.look(0, 4), 9);
        DUE.is("presses 4 and 5: look(0, 5)", edge.look(0, 5), 0);
        edge.found(9, 0, 5);
        DUE.is("one press alone: look(0, 0)", edge.look(0, 0), 0);
        edge.forget();
        edge.found(9, 0, 1);
        DUE.is("the least press alone: look(0, 0)", edge.look(0, 0), 0);
        edge.forget();
        edge.found(9, 0, 9);
        DUE.is("the greatest press alone: look(0, 0)", edge.look(0, 0), 0);
        edge.found(0, 0, 1);
        DUE.is("no press: look(0, 0)", edge.look(0, 0), BlotLand.NONE);
        edge.sand(0, true);
        DUE.is("no press, sanded: look(0, 0)", edge.look(0, 0), BlotLand.NONE);
    }

    private static void lookRefused() {
        BlotLand x = Due.leaf("s019,b519");
        x.found(0, 0, 1);
        int[] unknown = {-1, 2, Integer.MIN_VALUE, Integer.MAX_VALUE};
        for (int k : unknown) {
            DUE.refused(x, "look(" + k + ", 0)", () -> x.look(k, 0), BlotLand.UNKNOWN);
            DUE.refused(x, "look(" + k + ", 21)", () -> x.look(k, 21), BlotLand.UNKNOWN);
        }
        for (int minute : NO_MINUTES) {
            DUE.refused(x, "look(1, " + minute + ")", () -> x.look(1, minute), BlotLand.OUTSIDE);
        }
    }

    private static void years() {
        // The draws of seed 0 are the minutes 0, 6, 13, 4, 12, 1, those of seed 1 are 17, 4, 12, 1, 13.
        BlotLand x = Due.leaf("s059");
        yearsIs(x, 1, 0, 45, 5, 12345);
        yearsIs(x, 2, 0, 60, 5, 1406932606);
        yearsIs(x, 3, 0, 60, 5, 654583775);
        yearsIs(x, 4, 0, 85, 5, 1449466924);
        yearsIs(x, 6, 0, 125, 5, 1109335178);
        yearsIs(x, 1, 1, 0, 10, 1103527590);
        yearsIs(x, 2, 1, 25, 5, 377401575);
        yearsIs(x, 4, 1, 65, 5, 1147902781);
        yearsIs(x, 1, Integer.MAX_VALUE, 0, 10, 1043980748);
        x.sand(0, true);
        yearsIs(x, 6, 0, 0, 10, 1109335178);
        BlotLand quick = Due.leaf("q059");
        yearsIs(quick, 1, 1, 5, 5, 1103527590);
        yearsIs(quick, 3, 1, 55, 5, 662824084);
        yearsIs(quick, 5, 1, 115, 5, 2035015474);
    }

    private static void yearsOnTheLand() {
        BlotLand x = Due.leaf("s059,b955");
        x.evening(0);
        long before = x.digest();
        yearsIs(x, 1, 0, 90, 5, 12345);
        yearsIs(x, 2, 0, 105, 5, 1406932606);
        yearsIs(x, 4, 0, 130 + 2 + 1, 3, 1449466924);
        yearsIs(x, 2, 0, 105, 5, 1406932606);
        DUE.is("years() only would be: digest()", x.digest(), before);
        DUE.inkIs(x, "years() only would be", 0, 0, 0, 0, 0, 9, 9, 9, 9, 9);
        DUE.is("years() only would be: count(2)", x.count(2), 1);
        for (int i = 0; i < 10; i++) {
            x.evening(0);
        }
        DUE.is("no room: years(6, 0, 0)", x.years(6, 0, 0), 5 * 99 + 2 + 1 + 5 + 2);
        DUE.is("no room: years(60, 0, 1)", x.years(60, 0, 1), 3);
    }

    private static void yearsIs(BlotLand x, int evenings, int seed, int... want) {
        for (int what = 0; what <= 2; what++) {
            String call = "years(" + evenings + ", " + seed + ", " + what + ")";
            DUE.is(call, x.years(evenings, seed, what), want[what]);
        }
    }

    private static void yearsRefused() {
        BlotLand x = Due.leaf("s059");
        BlotLand none = new BlotLand();
        int[][] outside = {{0, 0, 0}, {61, 0, 0}, {-1, 0, 0}, {Integer.MAX_VALUE, 0, 0}, {Integer.MIN_VALUE, 0, 0},
            {1, -1, 0}, {1, Integer.MIN_VALUE, 0}, {1, 0, -1}, {1, 0, 3}, {1, 0, Integer.MAX_VALUE}};
        for (int[] a : outside) {
            String call = "years(" + a[0] + ", " + a[1] + ", " + a[2] + ")";
            DUE.refused(x, call, () -> x.years(a[0], a[1], a[2]), BlotLand.OUTSIDE);
            DUE.refused(none, "no leaf: " + call, () -> none.years(a[0], a[1], a[2]), BlotLand.OUTSIDE);
        }
        DUE.refused(none, "no leaf: years(1, 0, 0)", () -> none.years(1, 0, 0), BlotLand.STATE);
        DUE.refused(none, "no leaf: years(60, 5, 2)", () -> none.years(60, 5, 2), BlotLand.STATE);
    }
}
