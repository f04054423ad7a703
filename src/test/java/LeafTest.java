/** Promises 1 to 5: a new object, letter, blank, fault, leaf. */
public final class LeafTest {
    private static final Due DUE = new Due();
    private static final String FOUR = "s059,b151,q935,t419";

    public static void main(String[] args) {
        aNewObject();
        letter();
        blank();
        fault();
        faultAtEachPlace();
        leaf();
        leafRefused();
        anotherLeaf();
        DUE.end("LeafTest");
    }

    private static void aNewObject() {
        BlotLand x = new BlotLand();
        for (int what = 0; what <= 7; what++) {
            DUE.is("new: count(" + what + ")", x.count(what), 0);
        }
        DUE.is("new: about(0, 0)", x.about(0, 0), BlotLand.UNKNOWN);
        DUE.is("new: as(0, 0)", x.as(0, 0), BlotLand.UNKNOWN);
        DUE.is("new: sand(0, true)", x.sand(0, true), BlotLand.UNKNOWN);
        DUE.is("new: wet(0, 0)", x.wet(0, 0), BlotLand.UNKNOWN);
        DUE.is("new: look(0, 0)", x.look(0, 0), BlotLand.UNKNOWN);
        DUE.is("new: ink(0)", x.ink(0), BlotLand.UNKNOWN);
        DUE.is("new: comes(0, 0)", x.comes(0, 0), BlotLand.UNKNOWN);
        DUE.is("new: close(0, 0)", x.close(0, 0), BlotLand.UNKNOWN);
        DUE.is("new: found(0, 0, 0)", x.found(0, 0, 0), BlotLand.UNKNOWN);
        DUE.is("new: write(0, 0, 1, 1)", x.write(0, 0, 1, 1), BlotLand.STATE);
        DUE.is("new: evening(0)", x.evening(0), BlotLand.STATE);
        DUE.is("new: hills(1)", x.hills(1), BlotLand.STATE);
        DUE.is("new: toSand(0, 0, 0)", x.toSand(0, 0, 0), BlotLand.STATE);
        DUE.is("new: years(1, 0, 0)", x.years(1, 0, 0), BlotLand.STATE);
        DUE.is("new: image()", x.image(), BlotLand.STATE);
        DUE.is("new: restore()", x.restore(), BlotLand.STATE);
        DUE.is("new: leaf()", x.leaf(), BlotLand.STATE);
        DUE.is("new: forget()", x.forget(), 0);
        DUE.is("new: fault()", x.fault(), 0);
        DUE.is("new: blank()", x.blank(), 0);
        DUE.is("new: digest()", x.digest(), 1049L * 31 * 31 * 31 * 31 * 31 * 31 * 31 * 31);
        BlotLand other = Due.leaf(FOUR);
        other.evening(3);
        DUE.is("new beside another: count(0)", x.count(0), 0);
        DUE.is("new beside another: ink(0)", x.ink(0), BlotLand.UNKNOWN);
    }

    private static void letter() {
        BlotLand x = new BlotLand();
        DUE.is("letter(32)", x.letter(32), 1);
        DUE.is("letter(126)", x.letter(126), 2);
        int[] outside = {31, 127, 0, -1, 1000, 65536 + 's', Integer.MIN_VALUE, Integer.MAX_VALUE};
        for (int code : outside) {
            DUE.refused(x, "letter(" + code + ")", () -> x.letter(code), BlotLand.OUTSIDE);
        }
        for (int many = 3; many <= 21; many++) {
            DUE.is("letter number " + many, x.letter('s'), many);
        }
        DUE.refused(x, "letter number 22", () -> x.letter('s'), BlotLand.FULL);
        DUE.refused(x, "letter(31) on a full page", () -> x.letter(31), BlotLand.OUTSIDE);
        DUE.is("count(6) of a full page", x.count(6), 21);
        x.blank();
        DUE.is("letter behind blank()", x.letter('s'), 1);
    }

    private static void blank() {
        BlotLand x = Due.page("s01");
        DUE.is("blank()", x.blank(), 3);
        DUE.is("count(6) behind blank()", x.count(6), 0);
        DUE.is("blank() again", x.blank(), 0);
        BlotLand full = Due.page("sssssssssssssssssssss");
        DUE.is("blank() of a full page", full.blank(), 21);
        BlotLand read = Due.leaf("s011");
        read.evening(0);
        Due.type(read, "b");
        read.blank();
        DUE.is("the leaf stays behind blank(): count(0)", read.count(0), 1);
        DUE.is("the land stays behind blank(): ink(9)", read.ink(9), 1);
    }

    private static void fault() {
        faultIs("", 0);
        faultIs("x", 0);
        faultIs("S", 0);
        faultIs("0", 0);
        faultIs(",", 0);
        faultIs(" s011", 0);
        faultIs("xs011", 0);
        faultIs("ss", 1);
        faultIs("s/", 1);
        faultIs("s:", 1);
        faultIs("s00", 2);
        faultIs("s06", 2);
        faultIs("s0s", 2);
        faultIs("s010", 3);
        faultIs("s01:", 3);
        faultIs("s011;", 4);
        faultIs("s0111", 4);
        faultIs("s011s", 4);
        faultIs("s011 ", 4);
        faultIs("s011,,", 5);
        faultIs("s011,x", 5);
        faultIs("s011,b06", 7);
        faultIs("s011,b010", 8);
        faultIs("s011,b011;", 9);
        faultIs("s010,x", 3);
        faultIs("s955", 4);
        faultIs(FOUR + ",", 19);
        faultIs(FOUR + "s", 19);
        faultIs(FOUR + ",s", 19);
        faultIs(FOUR + ", ", 19);
    }

    private static void faultAtEachPlace() {
        for (String kind : new String[] {"s", "b", "q", "f", "t"}) {
            for (String digits : new String[] {"011", "959", "519", "251"}) {
                faultIs(kind + digits, 4);
            }
        }
        for (int size = 1; size <= FOUR.length(); size++) {
            faultIs(FOUR.substring(0, size), size);
            faultIs(FOUR.substring(0, size - 1) + "~", size - 1);
            faultIs(FOUR.substring(0, size - 1) + "~s", size - 1);
        }
    }

    private static void faultIs(String text, int want) {
        BlotLand x = Due.page(text);
        DUE.is("fault() of \"" + text + "\"", x.fault(), want);
        DUE.is("fault() of \"" + text + "\" leaves the page: count(6)", x.count(6), text.length());
    }

    private static void leaf() {
        String[] texts = {FOUR.substring(0, 4), FOUR.substring(0, 9), FOUR.substring(0, 14), FOUR};
        for (int many = 1; many <= 4; many++) {
            BlotLand x = Due.page(texts[many - 1]);
            DUE.is("leaf() of " + many, x.leaf(), many);
            DUE.is("count(0) behind leaf()", x.count(0), many);
            DUE.is("count(6) behind leaf()", x.count(6), 0);
            DUE.is("count(7) behind leaf()", x.count(7), 1);
            DUE.is("count(4) behind leaf()", x.count(4), 10);
            DUE.inkIs(x, "behind leaf()", 0, 0, 0, 0, 0, 0, 0, 0, 0, 0);
            DUE.is("leaf() of an empty page", x.leaf(), BlotLand.STATE);
        }
        BlotLand x = Due.leaf(FOUR);
        int[][] strokes = {{0, 0, 5, 9}, {1, 1, 5, 1}, {2, 9, 1, 5}, {4, 4, 1, 9}};
        for (int k = 0; k < 4; k++) {
            for (int what = 0; what <= 3; what++) {
                DUE.is("about(" + k + ", " + what + ")", x.about(k, what), strokes[k][what]);
            }
        }
    }

    private static void leafRefused() {
        String[] none = {"", "s", "s0", "s01", "s010", "s061", "x011", "s011,", "s011,b", "s011,b01", "s011s",
            "s011;b011", " s011", "s011 ", FOUR + ",", FOUR + ",s"};
        for (String text : none) {
            BlotLand x = Due.leaf("q237,b511");
            x.evening(1);
            x.sand(0, true);
            x.found(1, 1, 1);
            x.image();
            Due.type(x, text);
            DUE.refused(x, "leaf() of \"" + text + "\"", x::leaf, BlotLand.STATE);
            DUE.is("count(6) behind a refused leaf()", x.count(6), text.length());
            DUE.is("restore() behind a refused leaf()", x.restore(), 1);
        }
    }

    private static void anotherLeaf() {
        BlotLand x = Due.leaf("q237,b511");
        x.write(0, 0, 5, 9);
        x.evening(1);
        x.sand(0, true);
        x.sand(2, true);
        x.found(1, 1, 1);
        x.image();
        Due.type(x, "q237,b511");
        DUE.is("leaf() again", x.leaf(), 2);
        int[] want = {2, 0, 0, 0, 10, 0, 0, 2};
        for (int what = 0; what <= 7; what++) {
            DUE.is("another leaf: count(" + what + ")", x.count(what), want[what]);
        }
        DUE.is("another leaf: about(0, 4)", x.about(0, 4), 0);
        DUE.is("another leaf: about(0, 5)", x.about(0, 5), 511);
        DUE.is("another leaf: about(2, 0)", x.about(2, 0), BlotLand.UNKNOWN);
        DUE.is("another leaf: restore()", x.restore(), BlotLand.STATE);
        DUE.is("another leaf: write(0, 0, 1, 1)", x.write(0, 0, 1, 1), 2);
        DUE.is("another leaf: wet(2, 2)", x.wet(2, 2), 1);
    }
}
