/** Promises 6 to 10: about, as, write, sand, wet. */
public final class StrokesTest {
    private static final Due DUE = new Due();

    public static void main(String[] args) {
        about();
        aboutHeavy();
        aboutRefused();
        as();
        write();
        writeRefused();
        sand();
        wet();
        wetRefused();
        DUE.end("StrokesTest");
    }

    private static void about() {
        BlotLand x = Due.leaf("s059,b853,q917,t411");
        int[][] want = {{0, 0, 5, 9, 0, 511}, {1, 8, 2, 3, 0, 511}, {2, 9, 1, 7, 0, 511}, {4, 4, 1, 1, 0, 511}};
        for (int k = 0; k < 4; k++) {
            for (int what = 0; what <= 5; what++) {
                DUE.is("about(" + k + ", " + what + ")", x.about(k, what), want[k][what]);
            }
        }
        x.sand(1, true);
        DUE.is("about(1, 4) when sanded", x.about(1, 4), 1);
        DUE.is("about(0, 4) when another is sanded", x.about(0, 4), 0);
        DUE.is("about(0, 2) of f651", Due.leaf("f651").about(0, 2), 4);
        DUE.is("about(0, 2) of f551", Due.leaf("f551").about(0, 2), 5);
        DUE.is("about(0, 0) of f651", Due.leaf("f651").about(0, 0), 3);
    }

    private static void aboutHeavy() {
        BlotLand x = Due.leaf("s025,b214");
        x.found(9, 2, 0);
        DUE.is("a stroke that has dried by then: about(0, 5)", x.about(0, 5), 3);
        DUE.is("a press that is against it as it is: about(1, 5)", x.about(1, 5), 0);
        x.forget();
        x.found(8, 1, 6);
        DUE.is("a stroke and a blot's edge: about(0, 5)", x.about(0, 5), 16);
        DUE.is("a blot's edge, halved: about(1, 5)", x.about(1, 5), 8 + 16);
        x.found(7, 1, 5);
        DUE.is("found against the blot as it is: about(0, 5)", x.about(0, 5), 0);
        DUE.is("two found: about(1, 5)", x.about(1, 5), 16);
        x.sand(0, true);
        DUE.is("all else as it is now: about(1, 5)", x.about(1, 5), 0);
        x.forget();
        x.found(7, 1, 4);
        DUE.is("a sanded one can have any press: about(0, 5)", x.about(0, 5), 511);
        x.found(0, 0, 1);
        DUE.is("none: about(0, 5)", x.about(0, 5), 0);
        DUE.is("none: about(1, 5)", x.about(1, 5), 0);
        BlotLand tear = Due.leaf("t511");
        tear.found(4, 0, 12);
        DUE.is("a tear of press 9: about(0, 5)", tear.about(0, 5), 256);
        DUE.is("HEAVY leaves the press: about(0, 3)", tear.about(0, 3), 1);
    }

    private static void aboutRefused() {
        BlotLand x = Due.leaf("s059,b853");
        int[] unknown = {-1, 2, 3, 6, Integer.MIN_VALUE, Integer.MAX_VALUE};
        for (int k : unknown) {
            DUE.refused(x, "about(" + k + ", 0)", () -> x.about(k, 0), BlotLand.UNKNOWN);
            DUE.refused(x, "about(" + k + ", 6)", () -> x.about(k, 6), BlotLand.UNKNOWN);
        }
        int[] outside = {-1, 6, Integer.MIN_VALUE, Integer.MAX_VALUE};
        for (int what : outside) {
            DUE.refused(x, "about(1, " + what + ")", () -> x.about(1, what), BlotLand.OUTSIDE);
        }
    }

    private static void as() {
        BlotLand x = Due.leaf("s011,b011,q011,f011");
        x.write(4, 0, 1, 1);
        x.write(1, 0, 1, 1);
        int none = BlotLand.NONE;
        int[][] want = {
            {0, none, none, none, none},
            {1, 1, none, none, none},
            {2, none, 2, none, none},
            {3, none, none, 3, none},
            {4, 4, none, none, 4},
            {5, 5, none, none, none},
        };
        for (int k = 0; k < 6; k++) {
            for (int kind = 0; kind <= 4; kind++) {
                DUE.is("as(" + k + ", " + kind + ")", x.as(k, kind), want[k][kind]);
            }
        }
        int[] outside = {-1, 5, Integer.MIN_VALUE, Integer.MAX_VALUE};
        for (int number : outside) {
            DUE.refused(x, "as(0, " + number + ")", () -> x.as(0, number), BlotLand.OUTSIDE);
        }
        int[] unknown = {-1, 6, Integer.MIN_VALUE, Integer.MAX_VALUE};
        for (int number : unknown) {
            DUE.refused(x, "as(" + number + ", 0)", () -> x.as(number, 0), BlotLand.UNKNOWN);
            DUE.refused(x, "as(" + number + ", 5)", () -> x.as(number, 5), BlotLand.UNKNOWN);
        }
    }

    private static void write() {
        BlotLand x = Due.leaf("s011,s011,s011,s011");
        DUE.is("write(2, 8, 5, 9)", x.write(2, 8, 5, 9), 4);
        int[] want = {2, 8, 2, 9, 0, 511};
        for (int what = 0; what <= 5; what++) {
            DUE.is("about(4, " + what + ")", x.about(4, what), want[what]);
        }
        DUE.is("ahead of its minute: wet(4, 3)", x.wet(4, 3), 0);
        DUE.is("at its minute: wet(4, 4)", x.wet(4, 4), 9);
        DUE.is("write(4, 9, 1, 1)", x.write(4, 9, 1, 1), 5);
        DUE.is("wet(5, 4)", x.wet(5, 4), 0);
        DUE.is("wet(5, 5)", x.wet(5, 5), 4);
        DUE.is("count(0)", x.count(0), 6);
        BlotLand kept = Due.leaf("s011");
        kept.evening(0);
        kept.sand(0, true);
        kept.found(0, 0, 0);
        Due.type(kept, "s");
        DUE.is("write(1, 0, 1, 1)", kept.write(1, 0, 1, 1), 1);
        int[] counts = {2, 1, 1, 1, 9, 1, 1, 1};
        for (int what = 0; what <= 7; what++) {
            DUE.is("what was stays: count(" + what + ")", kept.count(what), counts[what]);
        }
    }

    private static void writeRefused() {
        BlotLand x = Due.leaf("s011,s011,s011");
        int[][] outside = {{-1, 0, 1, 1}, {5, 0, 1, 1}, {0, -1, 1, 1}, {0, 10, 1, 1}, {0, 0, 0, 1}, {0, 0, 6, 1},
            {0, 0, 1, 0}, {0, 0, 1, 10}, {Integer.MAX_VALUE, 0, 1, 1}, {0, Integer.MIN_VALUE, 1, 1},
            {0, 0, Integer.MAX_VALUE, 1}, {0, 0, 1, Integer.MIN_VALUE}};
        writeRefusedFor(x, outside, BlotLand.OUTSIDE);
        int[][] edges = {{0, 0, 1, 1}, {4, 9, 5, 9}, {1, 9, 1, 1}};
        for (int i = 0; i < edges.length; i++) {
            int[] a = edges[i];
            DUE.is("write at the edges " + i, x.write(a[0], a[1], a[2], a[3]), 3 + i);
        }
        writeRefusedFor(x, edges, BlotLand.FULL);
        writeRefusedFor(x, outside, BlotLand.OUTSIDE);
        BlotLand none = new BlotLand();
        writeRefusedFor(none, edges, BlotLand.STATE);
        writeRefusedFor(none, outside, BlotLand.OUTSIDE);
    }

    private static void writeRefusedFor(BlotLand x, int[][] all, int want) {
        for (int[] a : all) {
            String call = "write(" + a[0] + ", " + a[1] + ", " + a[2] + ", " + a[3] + ")";
            DUE.refused(x, call, () -> x.write(a[0], a[1], a[2], a[3]), want);
        }
    }

    private static void sand() {
        BlotLand x = Due.leaf("s019,b519");
        DUE.is("sand(1, false)", x.sand(1, false), 0);
        DUE.is("sand(1, true)", x.sand(1, true), 0);
        DUE.is("wet(1, 1) when sanded", x.wet(1, 1), 0);
        DUE.is("wet(0, 1) when another is sanded", x.wet(0, 1), 8);
        DUE.is("comes(4, 1) when sanded", x.comes(4, 1), 0);
        DUE.is("count(1)", x.count(1), 1);
        DUE.is("sand(1, true) again", x.sand(1, true), 1);
        DUE.is("count(1) again", x.count(1), 1);
        DUE.is("sand(0, true)", x.sand(0, true), 0);
        DUE.is("count(1) of two", x.count(1), 2);
        DUE.is("sand(1, false)", x.sand(1, false), 1);
        DUE.is("wet(1, 1) when not sanded", x.wet(1, 1), 9);
        DUE.is("about(0, 4)", x.about(0, 4), 1);
        DUE.is("sand(1, false) again", x.sand(1, false), 0);
        int[] unknown = {-1, 2, 31, 32, Integer.MIN_VALUE, Integer.MAX_VALUE};
        for (int k : unknown) {
            DUE.refused(x, "sand(" + k + ", true)", () -> x.sand(k, true), BlotLand.UNKNOWN);
        }
    }

    private static void wet() {
        wetIs("s019", 0, 9, 8, 7, 6, 5, 4, 3, 2, 1, 0, 0, 0, 0, 0, 0, 0, 0, 0, 0, 0, 0);
        wetIs("b018", 0, 8, 7, 6, 5, 4, 3, 2, 1, 0, 0, 0, 0, 0, 0, 0, 0, 0, 0, 0, 0, 0);
        wetIs("q019", 0, 9, 9, 8, 8, 7, 7, 6, 6, 5, 5, 4, 4, 3, 3, 2, 2, 1, 1, 0, 0, 0);
        wetIs("q011", 0, 1, 1, 0, 0, 0, 0, 0, 0, 0, 0, 0, 0, 0, 0, 0, 0, 0, 0, 0, 0, 0);
        wetIs("f019", 0, 9, 6, 3, 0, 0, 0, 0, 0, 0, 0, 0, 0, 0, 0, 0, 0, 0, 0, 0, 0, 0);
        wetIs("f018", 0, 8, 5, 2, 0, 0, 0, 0, 0, 0, 0, 0, 0, 0, 0, 0, 0, 0, 0, 0, 0, 0);
        wetIs("t019", 0, 12, 11, 10, 9, 8, 7, 6, 5, 4, 3, 2, 1, 0, 0, 0, 0, 0, 0, 0, 0, 0);
        wetIs("t011", 0, 4, 3, 2, 1, 0, 0, 0, 0, 0, 0, 0, 0, 0, 0, 0, 0, 0, 0, 0, 0, 0);
        wetIs("s011,s019", 1, 0, 9, 8, 7, 6, 5, 4, 3, 2, 1, 0, 0, 0, 0, 0, 0, 0, 0, 0, 0, 0);
        wetIs("s011,s011,t011", 2, 0, 0, 4, 3, 2, 1, 0, 0, 0, 0, 0, 0, 0, 0, 0, 0, 0, 0, 0, 0, 0);
        wetIs("s011,s011,s011,q015", 3, 0, 0, 0, 5, 5, 4, 4, 3, 3, 2, 2, 1, 1, 0, 0, 0, 0, 0, 0, 0, 0);
        wetIs("s011,s011,s011,f014", 3, 0, 0, 0, 4, 1, 0, 0, 0, 0, 0, 0, 0, 0, 0, 0, 0, 0, 0, 0, 0, 0);
    }

    private static void wetIs(String text, int stroke, int... want) {
        BlotLand x = Due.leaf(text);
        for (int minute = 0; minute <= 20; minute++) {
            DUE.is(text + ": wet(" + stroke + ", " + minute + ")", x.wet(stroke, minute), want[minute]);
        }
        x.sand(stroke, true);
        for (int minute = 0; minute <= 20; minute++) {
            DUE.is(text + " sanded: wet(" + stroke + ", " + minute + ")", x.wet(stroke, minute), 0);
        }
    }

    private static void wetRefused() {
        BlotLand x = Due.leaf("s019,b519");
        int[] outside = {-1, 21, Integer.MIN_VALUE, Integer.MAX_VALUE};
        int[] unknown = {-1, 2, Integer.MIN_VALUE, Integer.MAX_VALUE};
        for (int minute : outside) {
            DUE.refused(x, "wet(0, " + minute + ")", () -> x.wet(0, minute), BlotLand.OUTSIDE);
            for (int k : unknown) {
                DUE.refused(x, "wet(" + k + ", " + minute + ")", () -> x.wet(k, minute), BlotLand.UNKNOWN);
            }
        }
        for (int k : unknown) {
            DUE.refused(x, "wet(" + k + ", 0)", () -> x.wet(k, 0), BlotLand.UNKNOWN);
        }
    }
}
