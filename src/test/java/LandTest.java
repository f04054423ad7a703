/** Promises 11 to 14: ink, comes, evening, hills. */
public final class LandTest {
    private static final Due DUE = new Due();
    private static final int[] NO_CELLS = {-1, 10, Integer.MIN_VALUE, Integer.MAX_VALUE};
    private static final int[] NO_MINUTES = {-1, 21, Integer.MIN_VALUE, Integer.MAX_VALUE};

    public static void main(String[] args) {
        ink();
        inkAtMost();
        comes();
        comesOfSeveral();
        comesRefused();
        evening();
        hills();
        hillsRefused();
        DUE.end("LandTest");
    }

    private static void ink() {
        BlotLand x = Due.leaf("s023,b515");
        DUE.inkIs(x, "ahead of an evening", 0, 0, 0, 0, 0, 0, 0, 0, 0, 0);
        x.evening(1);
        DUE.inkIs(x, "evening(1)", 0, 0, 0, 2, 5, 2, 0, 0, 2, 2);
        x.evening(2);
        DUE.inkIs(x, "evening(2) over it", 0, 0, 0, 4, 9, 4, 0, 0, 3, 3);
        x.sand(0, true);
        x.sand(1, true);
        x.evening(1);
        DUE.inkIs(x, "sanding takes none away", 0, 0, 0, 4, 9, 4, 0, 0, 3, 3);
        BlotLand none = new BlotLand();
        for (int cell : NO_CELLS) {
            DUE.refused(x, "ink(" + cell + ")", () -> x.ink(cell), BlotLand.UNKNOWN);
            DUE.refused(none, "no leaf: ink(" + cell + ")", () -> none.ink(cell), BlotLand.UNKNOWN);
        }
        DUE.refused(none, "no leaf: ink(9)", () -> none.ink(9), BlotLand.UNKNOWN);
    }

    private static void inkAtMost() {
        BlotLand x = Due.leaf("b919");
        for (int i = 1; i <= 10; i++) {
            x.evening(0);
        }
        DUE.inkIs(x, "ten evenings", 90, 40, 0, 0, 0, 0, 0, 0, 0, 0);
        DUE.is("just full: evening(0)", x.evening(0), 13);
        DUE.is("just full: ink(0)", x.ink(0), 99);
        DUE.is("no room: evening(0)", x.evening(0), 13);
        DUE.inkIs(x, "no room", 99, 48, 0, 0, 0, 0, 0, 0, 0, 0);
        BlotLand tear = Due.leaf("t919");
        for (int i = 1; i <= 9; i++) {
            tear.evening(0);
        }
        DUE.is("not just full: ink(0)", tear.ink(0), 99);
        DUE.is("not just full: ink(1)", tear.ink(1), 54);
    }

    private static void comes() {
        DUE.comesOfIs("s437", 0, 0, 0, 0, 7, 7, 7, 0, 0, 0, 0);
        DUE.comesOfIs("s437", 2, 0, 0, 0, 5, 5, 5, 0, 0, 0, 0);
        DUE.comesOfIs("b437", 0, 0, 0, 3, 7, 7, 7, 3, 0, 0, 0);
        DUE.comesOfIs("b438", 0, 0, 0, 4, 8, 8, 8, 4, 0, 0, 0);
        DUE.comesOfIs("b019", 0, 0, 0, 0, 0, 0, 0, 0, 0, 4, 9);
        DUE.comesOfIs("b919", 0, 9, 4, 0, 0, 0, 0, 0, 0, 0, 0);
        DUE.comesOfIs("b859", 0, 9, 9, 4, 0, 0, 0, 0, 0, 0, 0);
        DUE.comesOfIs("b059", 0, 0, 0, 0, 0, 4, 9, 9, 9, 9, 9);
        DUE.comesOfIs("b511", 0, 0, 0, 0, 0, 1, 0, 0, 0, 0, 0);
        DUE.comesOfIs("t511", 0, 0, 0, 0, 2, 4, 2, 0, 0, 0, 0);
        DUE.comesOfIs("t511", 3, 0, 0, 0, 0, 1, 0, 0, 0, 0, 0);
        DUE.comesOfIs("t511", 4, 0, 0, 0, 0, 0, 0, 0, 0, 0, 0);
        DUE.comesOfIs("q859", 5, 7, 7, 0, 0, 0, 0, 0, 0, 0, 0);
        DUE.comesOfIs("f029", 1, 0, 0, 0, 0, 0, 0, 0, 0, 6, 6);
        DUE.comesOfIs("s019", 20, 0, 0, 0, 0, 0, 0, 0, 0, 0, 0);
    }

    private static void comesOfSeveral() {
        BlotLand x = Due.leaf("s035,b217,t319,q259");
        DUE.comesIs(x, 0, 0, 0, 0, 0, 0, 0, 0, 5, 5, 5);
        DUE.comesIs(x, 1, 0, 0, 0, 0, 0, 0, 3, 11, 7, 4);
        DUE.comesIs(x, 2, 0, 0, 0, 0, 0, 6, 15, 15, 6, 3);
        DUE.comesIs(x, 3, 0, 0, 0, 9, 9, 14, 22, 21, 4, 2);
        DUE.comesIs(x, 20, 0, 0, 0, 1, 1, 1, 1, 1, 0, 0);
        x.sand(2, true);
        DUE.comesIs(x, 3, 0, 0, 0, 9, 9, 9, 11, 16, 4, 2);
        DUE.is("comes() presses nothing: count(3)", x.count(3), 0);
        DUE.is("comes() presses nothing: count(2)", x.count(2), 0);
    }

    private static void comesRefused() {
        BlotLand x = Due.leaf("s035");
        BlotLand none = new BlotLand();
        for (int cell : NO_CELLS) {
            DUE.refused(x, "comes(" + cell + ", 0)", () -> x.comes(cell, 0), BlotLand.UNKNOWN);
            DUE.refused(x, "comes(" + cell + ", 21)", () -> x.comes(cell, 21), BlotLand.UNKNOWN);
        }
        for (int minute : NO_MINUTES) {
            DUE.refused(x, "comes(0, " + minute + ")", () -> x.comes(0, minute), BlotLand.OUTSIDE);
            DUE.refused(none, "no leaf: comes(0, " + minute + ")", () -> none.comes(0, minute), BlotLand.UNKNOWN);
        }
    }

    private static void evening() {
        BlotLand x = Due.leaf("s035,b217,t319,q259");
        DUE.is("evening(3)", x.evening(3), 81);
        DUE.inkIs(x, "evening(3)", 0, 0, 0, 9, 9, 14, 22, 21, 4, 2);
        DUE.is("count(2)", x.count(2), 1);
        DUE.is("evening(0)", x.evening(0), 15);
        DUE.is("evening(20)", x.evening(20), 5);
        DUE.is("count(2)", x.count(2), 3);
        DUE.inkIs(x, "three evenings", 0, 0, 0, 10, 10, 15, 23, 27, 9, 7);
        DUE.is("the book writes on as it was: about(0, 3)", x.about(0, 3), 5);
        BlotLand none = new BlotLand();
        for (int minute : NO_MINUTES) {
            DUE.refused(x, "evening(" + minute + ")", () -> x.evening(minute), BlotLand.OUTSIDE);
            DUE.refused(none, "no leaf: evening(" + minute + ")", () -> none.evening(minute), BlotLand.OUTSIDE);
        }
        DUE.refused(none, "no leaf: evening(0)", () -> none.evening(0), BlotLand.STATE);
    }

    private static void hills() {
        BlotLand x = Due.leaf("s019,s218,s329,s816");
        DUE.is("dry: hills(1)", x.hills(1), 0);
        x.evening(3);
        DUE.inkIs(x, "hills", 0, 6, 0, 0, 0, 8, 8, 6, 0, 6);
        DUE.is("hills(1)", x.hills(1), 3);
        DUE.is("hills(6)", x.hills(6), 3);
        DUE.is("hills(7)", x.hills(7), 1);
        DUE.is("hills(8)", x.hills(8), 1);
        DUE.is("hills(9)", x.hills(9), 0);
        DUE.is("hills(10)", x.hills(10), 0);
        DUE.is("hills(99)", x.hills(99), 0);
        BlotLand all = Due.leaf("s051,s552");
        all.evening(1);
        DUE.inkIs(all, "second is heavier", 2, 2, 2, 2, 2, 0, 0, 0, 0, 0);
        all.evening(0);
        DUE.is("one row over the whole land: hills(1)", all.hills(1), 1);
        DUE.is("one row at its end: hills(2)", all.hills(2), 1);
        BlotLand ends = Due.leaf("s011,s912,s413,s614");
        ends.evening(3);
        ends.evening(2);
        ends.evening(1);
        ends.evening(0);
        DUE.inkIs(ends, "rows of one", 3, 0, 0, 4, 0, 5, 0, 0, 0, 1);
        DUE.is("rows of one: hills(1)", ends.hills(1), 4);
        DUE.is("rows of one: hills(3)", ends.hills(3), 3);
        DUE.is("rows of one: hills(4)", ends.hills(4), 2);
        DUE.is("rows of one: hills(5)", ends.hills(5), 1);
    }

    private static void hillsRefused() {
        BlotLand x = Due.leaf("s059");
        for (int i = 1; i <= 12; i++) {
            x.evening(0);
        }
        DUE.is("hills(99) of 99", x.hills(99), 1);
        BlotLand none = new BlotLand();
        int[] outside = {0, 100, -1, Integer.MIN_VALUE, Integer.MAX_VALUE};
        for (int much : outside) {
            DUE.refused(x, "hills(" + much + ")", () -> x.hills(much), BlotLand.OUTSIDE);
            DUE.refused(none, "no leaf: hills(" + much + ")", () -> none.hills(much), BlotLand.OUTSIDE);
        }
        DUE.refused(none, "no leaf: hills(1)", () -> none.hills(1), BlotLand.STATE);
    }
}
