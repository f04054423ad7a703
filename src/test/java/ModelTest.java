/** Long runs of calls, drawn by a seed, on the class and on the model beside it: both must answer alike. */
public final class ModelTest {
    private static final Due DUE = new Due();
    private static final int RUNS = 2500;
    // With the letters typed and the digests this stays below the 512 calls that an object is used for.
    private static final int CALLS = 120;
    private static final int[] FAR = {Integer.MIN_VALUE, Integer.MAX_VALUE, -1000, 1000, 31, 32, 33, 65536};

    private static long drawn = 20261118;

    public static void main(String[] args) {
        for (int run = 0; run < RUNS; run++) {
            run(run);
        }
        DUE.end("ModelTest");
    }

    private static int draw(int below) {
        drawn = drawn * 6364136223846793005L + 1442695040888963407L;
        return (int) ((drawn >>> 33) % below);
    }

    /** Mostly a number of the range, at times one just beside it, rarely one far off. */
    private static int near(int least, int most) {
        int luck = draw(40);
        if (luck == 0) {
            return FAR[draw(FAR.length)];
        }
        return luck <= 2 ? least - 1 + draw(most - least + 3) : least + draw(most - least + 1);
    }

    private static void run(int run) {
        BlotLand x = new BlotLand();
        BlotModel m = new BlotModel();
        for (int i = 0; i < CALLS; i++) {
            if (draw(20) == 0) {
                type(x, m, i);
            }
            call(x, m, "run " + run + ", call " + i + ": ");
            if (draw(6) == 0) {
                DUE.is("run " + run + ", behind call " + i + ": digest()", x.digest(), m.digest());
            }
        }
    }

    /** A leaf's text, at times with a letter gone wrong; read more often early in a run. */
    private static void type(BlotLand x, BlotModel m, int call) {
        StringBuilder text = new StringBuilder();
        int strokes = 1 + draw(5);
        for (int k = 0; k < strokes && k < 4; k++) {
            text.append(k == 0 ? "" : ",").append("sbqft".charAt(draw(5)));
            text.append(draw(10)).append(1 + draw(5)).append(1 + draw(9));
        }
        if (draw(4) == 0) {
            text.setCharAt(draw(text.length()), "sbqft0123456789, ~".charAt(draw(18)));
        }
        DUE.is("blank()", x.blank(), m.blank());
        for (int i = 0; i < text.length(); i++) {
            DUE.is("letter", x.letter(text.charAt(i)), m.letter(text.charAt(i)));
        }
        DUE.is("fault() of \"" + text + "\"", x.fault(), m.fault());
        if (call < 10 || draw(4) == 0) {
            DUE.is("leaf() of \"" + text + "\"", x.leaf(), m.leaf());
        }
    }

    private static void call(BlotLand x, BlotModel m, String at) {
        int a = near(0, 5);
        int minute = near(0, 20);
        int cell = near(0, 9);
        switch (draw(24)) {
            case 0 -> foundSo(x, m, at);
            case 1 -> aboutStroke(x, m, at, a);
            case 2 -> as(x, m, at, a, near(0, 4));
            case 3 -> write(x, m, at, near(0, 4), cell);
            case 4 -> sand(x, m, at, a, draw(3) == 0);
            case 5 -> DUE.is(at + "wet(" + a + ", " + minute + ")", x.wet(a, minute), m.wet(a, minute));
            case 6 -> DUE.is(at + "ink(" + cell + ")", x.ink(cell), m.ink(cell));
            case 7 -> DUE.is(at + "comes(" + cell + ", " + minute + ")", x.comes(cell, minute), m.comes(cell, minute));
            case 8, 9 -> evening(x, m, at, near(0, 12));
            case 10 -> hills(x, m, at, draw(2) == 0 ? near(1, 99) : near(1, 20));
            case 11 -> close(x, m, at, cell, draw(2) == 0 ? near(0, 99) : near(0, 12));
            case 12, 13 -> toSand(x, m, at, minute, near(0, 1023), near(0, 1));
            case 14 -> found(x, m, at, cell, minute, draw(2) == 0 ? near(0, 99) : near(0, 12));
            case 15 -> DUE.is(at + "forget()", x.forget(), m.forget());
            case 16, 17 -> DUE.is(at + "look(" + a + ", " + minute + ")", x.look(a, minute), m.look(a, minute));
            case 18 -> years(x, m, at, near(1, 60), near(0, 2));
            case 19 -> DUE.is(at + "image()", x.image(), m.image());
            case 20 -> DUE.is(at + "restore()", x.restore(), m.restore());
            case 21 -> count(x, m, at, near(0, 7));
            case 22 -> letter(x, m, at, near(32, 126));
            default -> DUE.is(at + "leaf()", x.leaf(), m.leaf());
        }
    }

    private static void aboutStroke(BlotLand x, BlotModel m, String at, int k) {
        for (int what = -1; what <= 6; what++) {
            DUE.is(at + "about(" + k + ", " + what + ")", x.about(k, what), m.about(k, what));
        }
    }

    private static void as(BlotLand x, BlotModel m, String at, int k, int kind) {
        DUE.is(at + "as(" + k + ", " + kind + ")", x.as(k, kind), m.as(k, kind));
    }

    private static void write(BlotLand x, BlotModel m, String at, int kind, int cell) {
        int length = near(1, 5);
        int press = near(1, 9);
        String call = "write(" + kind + ", " + cell + ", " + length + ", " + press + ")";
        DUE.is(at + call, x.write(kind, cell, length, press), m.write(kind, cell, length, press));
    }

    private static void sand(BlotLand x, BlotModel m, String at, int k, boolean is) {
        DUE.is(at + "sand(" + k + ", " + is + ")", x.sand(k, is), m.sand(k, is));
    }

    private static void evening(BlotLand x, BlotModel m, String at, int minute) {
        DUE.is(at + "evening(" + minute + ")", x.evening(minute), m.evening(minute));
    }

    private static void hills(BlotLand x, BlotModel m, String at, int much) {
        DUE.is(at + "hills(" + much + ")", x.hills(much), m.hills(much));
    }

    private static void close(BlotLand x, BlotModel m, String at, int cell, int much) {
        DUE.is(at + "close(" + cell + ", " + much + ")", x.close(cell, much), m.close(cell, much));
    }

    private static void toSand(BlotLand x, BlotModel m, String at, int minute, int cells, int what) {
        String call = "toSand(" + minute + ", " + cells + ", " + what + ")";
        DUE.is(at + call, x.toSand(minute, cells, what), m.toSand(minute, cells, what));
    }

    /** What would come just so: then several presses, or one, stay possible. */
    private static void foundSo(BlotLand x, BlotModel m, String at) {
        int cell = draw(10);
        int minute = draw(14);
        int much = m.comes(cell, minute);
        found(x, m, at, cell, minute, much);
    }

    private static void found(BlotLand x, BlotModel m, String at, int cell, int minute, int much) {
        String call = "found(" + cell + ", " + minute + ", " + much + ")";
        DUE.is(at + call, x.found(cell, minute, much), m.found(cell, minute, much));
    }

    private static void years(BlotLand x, BlotModel m, String at, int evenings, int what) {
        int seed = draw(8) == 0 ? near(0, 9) : draw(Integer.MAX_VALUE);
        String call = "years(" + evenings + ", " + seed + ", " + what + ")";
        DUE.is(at + call, x.years(evenings, seed, what), m.years(evenings, seed, what));
    }

    private static void count(BlotLand x, BlotModel m, String at, int what) {
        DUE.is(at + "count(" + what + ")", x.count(what), m.count(what));
    }

    private static void letter(BlotLand x, BlotModel m, String at, int code) {
        DUE.is(at + "letter(" + code + ")", x.letter(code), m.letter(code));
        DUE.is(at + "fault()", x.fault(), m.fault());
    }
}
