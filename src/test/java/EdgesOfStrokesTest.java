/** Promises 6 to 10, KINDS, WET and HEAVY: each sentence that names an edge has a test of its own. */
public final class EdgesOfStrokesTest {
    private static final Due DUE = new Due();
    private static final int STROKE = 0;
    private static final int BLOT = 1;
    private static final int QUICK = 2;
    private static final int FAINT = 3;
    private static final int TEAR = 4;

    public static void main(String[] args) {
        abouts();
        heavyAtItsEnds();
        heavyOfManyOrNone();
        casts();
        writes();
        writesAtTheEnd();
        sands();
        wetByMinutes();
        wetOfKinds();
        DUE.end("EdgesOfStrokesTest");
    }

    private static void abouts() {
        DUE.sentence("6 KIND, from the first to the last", () -> {
            for (int kind = 0; kind <= 4; kind++) {
                DUE.is("about(0, 0)", Due.leaf("sbqft".charAt(kind) + "011").about(0, 0), kind);
            }
        });
        DUE.sentence("6 it BEGINS at 0 to 9", () -> {
            for (int cell = 0; cell <= 9; cell++) {
                DUE.is("about(0, 1)", Due.leaf("s" + cell + "11").about(0, 1), cell);
            }
        });
        DUE.sentence("6 as many CELLS as there are: cut off at the end of THE LEAF", () -> {
            int[] fives = {5, 5, 5, 5, 5, 5, 4, 3, 2, 1};
            for (int cell = 0; cell <= 9; cell++) {
                DUE.is("s" + cell + "51: about(0, 2)", Due.leaf("s" + cell + "51").about(0, 2), fives[cell]);
                DUE.is("s" + cell + "11: about(0, 2)", Due.leaf("s" + cell + "11").about(0, 2), 1);
            }
            DUE.is("b821: about(0, 2)", Due.leaf("b821").about(0, 2), 2);
            DUE.is("b831: about(0, 2)", Due.leaf("b831").about(0, 2), 2);
            DUE.is("b921: about(0, 2)", Due.leaf("b921").about(0, 2), 1);
        });
        DUE.sentence("6 PRESS is 1 to 9", () -> {
            DUE.is("s011: about(0, 3)", Due.leaf("s011").about(0, 3), 1);
            DUE.is("t019, without the 3 more: about(0, 3)", Due.leaf("t019").about(0, 3), 9);
        });
        DUE.sentence("6 whether it is SANDED", () -> {
            BlotLand x = Due.leaf("s011");
            DUE.is("about(0, 4)", x.about(0, 4), 0);
            x.sand(0, true);
            DUE.is("about(0, 4)", x.about(0, 4), 1);
            x.sand(0, false);
            DUE.is("about(0, 4)", x.about(0, 4), 0);
        });
    }

    private static void heavyAtItsEnds() {
        DUE.sentence("6 HEAVY: PRESS 1 alone, and PRESS 9 alone, as bits", () -> {
            heavyIs("s015", 9, 0, 1, 1);
            heavyIs("s015", 9, 0, 9, 256);
        });
        DUE.sentence("6 HEAVY: no PRESS below 1, none above 9", () -> {
            heavyIs("s015", 9, 0, 0, 0);
            heavyIs("s015", 9, 0, 10, 0);
            heavyIs("s015", 9, 0, 99, 0);
        });
        DUE.sentence("6 HEAVY of a TEAR: 3 more, from 4 to 12", () -> {
            heavyIs("t015", 9, 0, 3, 0);
            heavyIs("t015", 9, 0, 4, 1);
            heavyIs("t015", 9, 0, 12, 256);
            heavyIs("t015", 9, 0, 13, 0);
        });
        DUE.sentence("6 HEAVY by what comes beside a BLOT, rounded down", () -> {
            heavyIs("b015", 8, 0, 0, 1);
            heavyIs("b015", 8, 0, 1, 2 + 4);
            heavyIs("b015", 8, 0, 4, 128 + 256);
            heavyIs("b015", 8, 0, 5, 0);
        });
        DUE.sentence("6 HEAVY of one that is dry then: all that have dried, 0 at least", () -> {
            heavyIs("s015", 9, 7, 0, 127);
            heavyIs("s015", 9, 8, 0, 255);
            heavyIs("s015", 9, 8, 1, 256);
            heavyIs("s015", 9, 9, 0, 511);
            heavyIs("f015", 9, 2, 0, 63);
            heavyIs("f015", 9, 3, 0, 511);
            heavyIs("q015", 9, 17, 0, 255);
            heavyIs("q015", 9, 18, 0, 511);
        });
    }

    private static void heavyIs(String leaf, int cell, int minute, int much, int want) {
        BlotLand x = Due.leaf(leaf);
        x.found(cell, minute, much);
        DUE.is(leaf + " behind found(" + cell + ", " + minute + ", " + much + "): about(0, 5)", x.about(0, 5), want);
    }

    private static void heavyOfManyOrNone() {
        DUE.sentence("6 HEAVY with nothing FOUND: all nine", () -> DUE.is("about(0, 5)", Due.leaf("s015").about(0, 5), 511));
        DUE.sentence("6 HEAVY by what is FOUND where it does not come: all, or none", () -> {
            heavyIs("s015", 8, 0, 0, 511);
            heavyIs("s015", 8, 0, 1, 0);
        });
        DUE.sentence("6 HEAVY of a SANDED one: all, or none", () -> {
            BlotLand x = Due.leaf("s015");
            x.sand(0, true);
            x.found(9, 0, 0);
            DUE.is("about(0, 5)", x.about(0, 5), 511);
            x.found(9, 0, 5);
            DUE.is("about(0, 5)", x.about(0, 5), 0);
        });
        DUE.sentence("6 HEAVY ahead of its MINUTE: all, or none", () -> {
            BlotLand x = Due.leaf("s011,s015");
            x.found(9, 0, 1);
            DUE.is("about(1, 5)", x.about(1, 5), 511);
            x.found(9, 0, 2);
            DUE.is("about(1, 5)", x.about(1, 5), 0);
        });
        DUE.sentence("6 HEAVY: all that is FOUND, the first and the sixth", () -> {
            for (int odd = 1; odd <= 6; odd++) {
                BlotLand x = Due.leaf("s015");
                for (int i = 1; i <= 6; i++) {
                    x.found(9, 0, i == odd ? 4 : 5);
                }
                DUE.is("number " + odd + " is against it: about(0, 5)", x.about(0, 5), 0);
            }
        });
        DUE.sentence("6 HEAVY: all else of THE LEAF as it is now", () -> {
            BlotLand x = Due.leaf("s012,s015");
            x.found(9, 1, 6);
            DUE.is("1 comes of the other: about(1, 5)", x.about(1, 5), 16);
            x.sand(0, true);
            DUE.is("none comes of the other: about(1, 5)", x.about(1, 5), 32);
            x.write(0, 0, 1, 9);
            DUE.is("one more is not there yet then: about(1, 5)", x.about(1, 5), 32);
            x.forget();
            x.found(9, 2, 13);
            DUE.is("9 come of one more: about(1, 5)", x.about(1, 5), 16);
        });
    }

    private static void casts() {
        DUE.sentence("7 all are STROKES", () -> {
            for (int kind = 0; kind <= 4; kind++) {
                DUE.is("KIND " + kind + ": as(0, 0)", Due.leaf("sbqft".charAt(kind) + "011").as(0, STROKE), 0);
            }
        });
        DUE.sentence("7 a TEAR is a BLOT, too", () -> castIs("t", BLOT, 0));
        DUE.sentence("7 a BLOT is no TEAR", () -> castIs("b", TEAR, BlotLand.NONE));
        DUE.sentence("7 a mere STROKE is none of the others", () -> {
            for (int kind = BLOT; kind <= TEAR; kind++) {
                castIs("s", kind, BlotLand.NONE);
            }
        });
        DUE.sentence("7 QUICK and FAINT are themselves alone", () -> {
            castIs("q", QUICK, 0);
            castIs("f", FAINT, 0);
            castIs("q", FAINT, BlotLand.NONE);
            castIs("f", QUICK, BlotLand.NONE);
            castIs("q", BLOT, BlotLand.NONE);
            castIs("f", TEAR, BlotLand.NONE);
        });
        DUE.sentence("7 its own number, not that of the KIND, up to the last", () -> {
            BlotLand x = Due.leaf("t011,t011,t011,t011");
            x.write(BLOT, 0, 1, 1);
            x.write(TEAR, 0, 1, 1);
            for (int k = 0; k <= 5; k++) {
                DUE.is("as(" + k + ", 1)", x.as(k, BLOT), k);
            }
            DUE.is("as(4, 4)", x.as(4, TEAR), BlotLand.NONE);
        });
    }

    private static void castIs(String letter, int kind, int want) {
        DUE.is(letter + "011: as(0, " + kind + ")", Due.leaf(letter + "011").as(0, kind), want);
    }

    private static void writes() {
        DUE.sentence("8 its number, up to 5; FULL: there are 6", () -> {
            BlotLand x = Due.leaf("s011");
            for (int k = 1; k <= 5; k++) {
                DUE.is("write number " + k, x.write(STROKE, 0, 1, 1), k);
            }
            DUE.is("write number 6", x.write(STROKE, 0, 1, 1), BlotLand.FULL);
            DUE.is("count(0)", x.count(0), 6);
        });
        DUE.sentence("8 at the MINUTE behind the last one's", () -> {
            BlotLand x = Due.leaf("s011,s011");
            for (int k = 2; k <= 5; k++) {
                x.write(STROKE, 0, 1, 9);
                DUE.is("ahead: wet(" + k + ", " + (k - 1) + ")", x.wet(k, k - 1), 0);
                DUE.is("then: wet(" + k + ", " + k + ")", x.wet(k, k), 9);
                DUE.is("later: wet(" + k + ", " + (k + 1) + ")", x.wet(k, k + 1), 8);
            }
        });
        DUE.sentence("8 the number and the MINUTE are those behind the last one that restore() left", () -> {
            BlotLand x = Due.leaf("s011");
            x.image();
            x.write(TEAR, 0, 5, 9);
            x.write(TEAR, 0, 5, 9);
            x.restore();
            DUE.is("write()", x.write(FAINT, 4, 1, 7), 1);
            DUE.is("wet(1, 0)", x.wet(1, 0), 0);
            DUE.is("wet(1, 1)", x.wet(1, 1), 7);
        });
        DUE.sentence("8 the first and the last of each number", () -> {
            BlotLand x = Due.leaf("s011");
            x.write(STROKE, 0, 1, 1);
            x.write(TEAR, 9, 5, 9);
            int[][] want = {{0, 0, 1, 1}, {4, 9, 1, 9}};
            for (int what = 0; what <= 3; what++) {
                DUE.is("about(1, " + what + ")", x.about(1, what), want[0][what]);
                DUE.is("about(2, " + what + ")", x.about(2, what), want[1][what]);
            }
        });
        DUE.sentence("8 no LEAF: STATE, also if THE PAGE is one", () -> {
            BlotLand x = Due.page("s011");
            DUE.is("write()", x.write(STROKE, 0, 1, 1), BlotLand.STATE);
            DUE.is("leaf()", x.leaf(), 1);
        });
    }

    private static void writesAtTheEnd() {
        DUE.sentence("8 cut off at the end of THE LEAF", () -> {
            int[] fives = {5, 5, 5, 5, 5, 5, 4, 3, 2, 1};
            for (int cell = 0; cell <= 9; cell++) {
                BlotLand x = Due.leaf("s011");
                x.write(BLOT, cell, 5, 9);
                DUE.is("write(1, " + cell + ", 5, 9): about(1, 2)", x.about(1, 2), fives[cell]);
            }
        });
        DUE.sentence("8 a STROKE that is cut off comes to no CELL beyond", () -> {
            BlotLand x = Due.leaf("f011");
            x.write(TEAR, 8, 5, 9);
            DUE.comesIs(x, 1, 12, 12, 6, 0, 0, 0, 0, 0, 0, 0);
        });
    }

    private static void sands() {
        DUE.sentence("9 whether it was: four ways", () -> {
            BlotLand x = Due.leaf("s011");
            DUE.is("not, and not then", x.sand(0, false), 0);
            DUE.is("not, and SANDED then", x.sand(0, true), 0);
            DUE.is("SANDED, and SANDED then", x.sand(0, true), 1);
            DUE.is("it is", x.about(0, 4), 1);
            DUE.is("SANDED, and not then", x.sand(0, false), 1);
            DUE.is("it is not", x.about(0, 4), 0);
        });
        DUE.sentence("9 each for itself, from the first to the last", () -> {
            for (int one = 0; one <= 5; one++) {
                BlotLand x = sixStrokes();
                DUE.is("sand(" + one + ", true)", x.sand(one, true), 0);
                for (int k = 0; k <= 5; k++) {
                    DUE.is("about(" + k + ", 4)", x.about(k, 4), k == one ? 1 : 0);
                }
            }
        });
        DUE.sentence("9 all are SANDED, and none", () -> {
            BlotLand x = sixStrokes();
            for (int k = 0; k <= 5; k++) {
                x.sand(k, true);
            }
            DUE.is("count(1)", x.count(1), 6);
            DUE.is("evening(5)", x.evening(5), 0);
            for (int k = 0; k <= 5; k++) {
                x.sand(k, false);
            }
            DUE.is("count(1)", x.count(1), 0);
        });
    }

    private static BlotLand sixStrokes() {
        BlotLand x = Due.leaf("s059,b534,q719,t413");
        x.write(STROKE, 0, 5, 9);
        x.write(BLOT, 5, 5, 9);
        return x;
    }

    private static void wetByMinutes() {
        DUE.sentence("10 STROKE k is written at MINUTE k: just as WET as its PRESS then", () -> {
            BlotLand x = sixStrokes();
            int[] want = {9, 4, 9, 3 + 3, 9, 9};
            for (int k = 0; k <= 5; k++) {
                DUE.is("wet(" + k + ", " + k + ")", x.wet(k, k), want[k]);
            }
        });
        DUE.sentence("10 ahead of its MINUTE it is not there", () -> {
            BlotLand x = Due.leaf("s019,s019,s019,f019");
            x.write(QUICK, 0, 1, 9);
            x.write(TEAR, 0, 1, 9);
            for (int k = 1; k <= 5; k++) {
                for (int minute = 0; minute < k; minute++) {
                    DUE.is("wet(" + k + ", " + minute + ")", x.wet(k, minute), 0);
                }
            }
        });
        DUE.sentence("10 less one for each MINUTE later, 0 at least", () -> {
            wetIs("s012", 0, 2);
            wetIs("s012", 1, 1);
            wetIs("s012", 2, 0);
            wetIs("s012", 3, 0);
            wetIs("b019", 8, 1);
            wetIs("b019", 9, 0);
            wetIs("b019", 10, 0);
        });
        DUE.sentence("10 MINUTE 0 and MINUTE 20", () -> {
            wetIs("t019", 0, 12);
            wetIs("t019", 20, 0);
            BlotLand x = Due.leaf("s019,s019,s019,s019");
            x.write(QUICK, 0, 1, 9);
            x.write(QUICK, 0, 1, 9);
            DUE.is("wet(4, 20)", x.wet(4, 20), 1);
            DUE.is("wet(5, 20)", x.wet(5, 20), 2);
        });
        DUE.sentence("10 SANDED it is not WET", () -> {
            BlotLand x = Due.leaf("t019,q019");
            x.sand(0, true);
            DUE.is("wet(0, 0)", x.wet(0, 0), 0);
            DUE.is("wet(0, 5)", x.wet(0, 5), 0);
            DUE.is("the other: wet(1, 1)", x.wet(1, 1), 9);
            x.sand(0, false);
            DUE.is("not any more: wet(0, 0)", x.wet(0, 0), 12);
        });
    }

    private static void wetOfKinds() {
        DUE.sentence("10 QUICK: half of the MINUTES, rounded down, 0 at least", () -> {
            wetIs("q012", 0, 2);
            wetIs("q012", 1, 2);
            wetIs("q012", 2, 1);
            wetIs("q012", 3, 1);
            wetIs("q012", 4, 0);
            wetIs("q012", 5, 0);
            wetIs("q012", 6, 0);
            wetIs("q019", 17, 1);
            wetIs("q019", 18, 0);
            wetIs("q019", 20, 0);
        });
        DUE.sentence("10 FAINT: by 3 in each, 0 at least", () -> {
            wetIs("f017", 0, 7);
            wetIs("f017", 1, 4);
            wetIs("f017", 2, 1);
            wetIs("f017", 3, 0);
            wetIs("f013", 1, 0);
            wetIs("f011", 1, 0);
            wetIs("f019", 20, 0);
        });
        DUE.sentence("10 a TEAR: as a STROKE of a PRESS 3 greater, 0 at least", () -> {
            wetIs("t011", 0, 4);
            wetIs("t011", 3, 1);
            wetIs("t011", 4, 0);
            wetIs("t011", 5, 0);
            wetIs("t019", 11, 1);
            wetIs("t019", 12, 0);
            wetIs("t019", 13, 0);
        });
    }

    private static void wetIs(String leaf, int minute, int want) {
        DUE.is(leaf + ": wet(0, " + minute + ")", Due.leaf(leaf).wet(0, minute), want);
    }
}
