/** Promises 11 to 14, CELLS, EVENINGS and HILLS: each sentence that names an edge has a test of its own. */
public final class EdgesOfLandTest {
    private static final Due DUE = new Due();

    public static void main(String[] args) {
        cells();
        besideItsEnds();
        halves();
        comesAtMinutes();
        inks();
        evenings();
        hillsByMuch();
        hillsByRows();
        DUE.end("EdgesOfLandTest");
    }

    private static void cells() {
        DUE.sentence("CELL c of the LEAF comes to CELL 9 less c of the LAND", () -> {
            for (int c = 0; c <= 9; c++) {
                BlotLand x = Due.leaf("s" + c + "17");
                for (int cell = 0; cell <= 9; cell++) {
                    DUE.is("s" + c + "17: comes(" + cell + ", 0)", x.comes(cell, 0), cell == 9 - c ? 7 : 0);
                }
            }
        });
        DUE.sentence("from where it BEGINS on to the right, as many CELLS as there are", () -> {
            DUE.comesOfIs("s057", 0, 0, 0, 0, 0, 0, 7, 7, 7, 7, 7);
            DUE.comesOfIs("s557", 0, 7, 7, 7, 7, 7, 0, 0, 0, 0, 0);
            DUE.comesOfIs("s657", 0, 7, 7, 7, 7, 0, 0, 0, 0, 0, 0);
            DUE.comesOfIs("s957", 0, 7, 0, 0, 0, 0, 0, 0, 0, 0, 0);
        });
        DUE.sentence("11 a CELL of the LAND, from the first to the last", () -> {
            BlotLand x = Due.leaf("s053,s557");
            x.evening(0);
            x.evening(1);
            DUE.is("ink(0)", x.ink(0), 7);
            DUE.is("ink(9)", x.ink(9), 3 + 2);
            DUE.is("ink(-1)", x.ink(-1), BlotLand.UNKNOWN);
            DUE.is("ink(10)", x.ink(10), BlotLand.UNKNOWN);
        });
    }

    private static void besideItsEnds() {
        DUE.sentence("of a BLOT, a TEAR to the CELLS right beside its ends, and no farther", () -> {
            DUE.comesOfIs("b427", 0, 0, 0, 0, 3, 7, 7, 3, 0, 0, 0);
            DUE.comesOfIs("t415", 0, 0, 0, 0, 0, 4, 8, 4, 0, 0, 0);
        });
        DUE.sentence("if there are such: none to the left of CELL 0", () -> {
            DUE.comesOfIs("b018", 0, 0, 0, 0, 0, 0, 0, 0, 0, 4, 8);
            DUE.comesOfIs("b118", 0, 0, 0, 0, 0, 0, 0, 0, 4, 8, 4);
        });
        DUE.sentence("if there are such: none to the right of CELL 9", () -> {
            DUE.comesOfIs("t915", 0, 8, 4, 0, 0, 0, 0, 0, 0, 0, 0);
            DUE.comesOfIs("t815", 0, 4, 8, 4, 0, 0, 0, 0, 0, 0, 0);
        });
        DUE.sentence("nor where it is cut off at the end of THE LEAF", () -> {
            DUE.comesOfIs("b458", 0, 4, 8, 8, 8, 8, 8, 4, 0, 0, 0);
            DUE.comesOfIs("b558", 0, 8, 8, 8, 8, 8, 4, 0, 0, 0, 0);
            DUE.comesOfIs("b758", 0, 8, 8, 8, 4, 0, 0, 0, 0, 0, 0);
            DUE.comesOfIs("b958", 0, 8, 4, 0, 0, 0, 0, 0, 0, 0, 0);
        });
        DUE.sentence("of a STROKE, QUICK, FAINT nothing comes beside", () -> {
            DUE.comesOfIs("s428", 0, 0, 0, 0, 0, 8, 8, 0, 0, 0, 0);
            DUE.comesOfIs("q428", 0, 0, 0, 0, 0, 8, 8, 0, 0, 0, 0);
            DUE.comesOfIs("f428", 0, 0, 0, 0, 0, 8, 8, 0, 0, 0, 0);
        });
    }

    private static void halves() {
        DUE.sentence("half as much, rounded down: of 1 none", () -> {
            DUE.comesOfIs("b511", 0, 0, 0, 0, 0, 1, 0, 0, 0, 0, 0);
            DUE.comesOfIs("t511", 3, 0, 0, 0, 0, 1, 0, 0, 0, 0, 0);
        });
        DUE.sentence("half as much, rounded down: of 2 and of 3 one", () -> {
            DUE.comesOfIs("b512", 0, 0, 0, 0, 1, 2, 1, 0, 0, 0, 0);
            DUE.comesOfIs("b513", 0, 0, 0, 0, 1, 3, 1, 0, 0, 0, 0);
        });
        DUE.sentence("half of what it is WET then, not of its PRESS", () -> {
            DUE.comesOfIs("b519", 4, 0, 0, 0, 2, 5, 2, 0, 0, 0, 0);
            DUE.comesOfIs("b519", 9, 0, 0, 0, 0, 0, 0, 0, 0, 0, 0);
        });
        DUE.sentence("of each STROKE by itself rounded down", () ->
            // 7 is left of the first and 7 of the second, and the cell between has 3 of each.
            DUE.comesOfIs("b318,b517", 1, 0, 0, 0, 3, 7, 6, 7, 3, 0, 0));
    }

    private static void comesAtMinutes() {
        DUE.sentence("12 at MINUTE 0 the first STROKE alone", () -> DUE.comesOfIs("s011,s059", 0, 0, 0, 0, 0, 0, 0, 0, 0, 0, 1));
        DUE.sentence("12 at MINUTE 20, the last", () -> {
            BlotLand x = Due.leaf("t059,t059,t059,t059");
            x.write(2, 8, 5, 9);
            DUE.comesIs(x, 20, 1, 1, 0, 0, 0, 0, 0, 0, 0, 0);
            DUE.is("comes(0, 21)", x.comes(0, 21), BlotLand.OUTSIDE);
        });
        DUE.sentence("12 the most that can come: of six TEARS one over the other", () -> {
            BlotLand x = Due.leaf("t059,t059,t059,t059");
            x.write(4, 0, 5, 9);
            x.write(4, 0, 5, 9);
            DUE.is("comes(9, 5)", x.comes(9, 5), 7 + 8 + 9 + 10 + 11 + 12);
            DUE.is("beside: comes(4, 5)", x.comes(4, 5), 3 + 4 + 4 + 5 + 5 + 6);
        });
        DUE.sentence("12 as much would come to a CELL that has no room", () -> {
            BlotLand x = Due.leaf("s919");
            Due.evenings(x, 12, 0);
            DUE.is("ink(0)", x.ink(0), 99);
            DUE.is("comes(0, 0)", x.comes(0, 0), 9);
        });
        DUE.sentence("12 nothing comes of what is SANDED, or dry", () -> {
            BlotLand x = Due.leaf("b519");
            DUE.comesIs(x, 9, 0, 0, 0, 0, 0, 0, 0, 0, 0, 0);
            x.sand(0, true);
            DUE.comesIs(x, 0, 0, 0, 0, 0, 0, 0, 0, 0, 0, 0);
        });
    }

    private static void inks() {
        DUE.sentence("INK grows by all that comes", () -> {
            BlotLand x = Due.leaf("b319,s517");
            x.evening(1);
            DUE.inkIs(x, "evening(1)", 0, 0, 0, 0, 7, 4, 8, 4, 0, 0);
            x.evening(8);
            DUE.inkIs(x, "evening(8)", 0, 0, 0, 0, 7, 4, 9, 4, 0, 0);
        });
        DUE.sentence("INK: 99 at most, just met", () -> {
            BlotLand x = Due.leaf("s919");
            Due.evenings(x, 10, 0);
            DUE.is("ten evenings: ink(0)", x.ink(0), 90);
            x.evening(0);
            DUE.is("eleven evenings: ink(0)", x.ink(0), 99);
            x.evening(8);
            DUE.is("one more, of 1: ink(0)", x.ink(0), 99);
        });
        DUE.sentence("INK: 99 at most, of what has room for a part", () -> {
            BlotLand x = Due.leaf("s918");
            Due.evenings(x, 12, 0);
            DUE.is("twelve evenings: ink(0)", x.ink(0), 96);
            x.evening(0);
            DUE.is("thirteen evenings: ink(0)", x.ink(0), 99);
        });
        DUE.sentence("INK of the others grows on", () -> {
            BlotLand x = Due.leaf("b919");
            Due.evenings(x, 20, 0);
            DUE.inkIs(x, "twenty evenings", 99, 80, 0, 0, 0, 0, 0, 0, 0, 0);
            Due.evenings(x, 5, 0);
            DUE.inkIs(x, "twenty-five evenings", 99, 99, 0, 0, 0, 0, 0, 0, 0, 0);
        });
    }

    private static void evenings() {
        DUE.sentence("13 how much comes to all, also what a CELL has no room for", () -> {
            BlotLand x = Due.leaf("s918");
            Due.evenings(x, 12, 0);
            DUE.is("room for 3 of 8", x.evening(0), 8);
            DUE.is("room for none", x.evening(0), 8);
        });
        DUE.sentence("13 at MINUTE 0 and at MINUTE 20", () -> {
            BlotLand x = Due.leaf("s059,s011,s011,s011");
            x.write(2, 5, 5, 9);
            DUE.is("evening(0)", x.evening(0), 45);
            DUE.is("evening(20)", x.evening(20), 5);
            DUE.inkIs(x, "both", 1, 1, 1, 1, 1, 9, 9, 9, 9, 9);
        });
        DUE.sentence("13 an EVENING on which nothing comes is one, too", () -> {
            BlotLand x = Due.leaf("s019");
            DUE.is("evening(20)", x.evening(20), 0);
            DUE.is("count(2)", x.count(2), 1);
            DUE.is("count(4)", x.count(4), 10);
        });
        DUE.sentence("13 of EVENINGS there can be as many as there are calls", () -> {
            BlotLand x = Due.leaf("s011");
            Due.evenings(x, 500, 0);
            DUE.is("count(2)", x.count(2), 500);
            DUE.is("ink(9)", x.ink(9), 99);
        });
        DUE.sentence("13 a refused one is none", () -> {
            BlotLand x = Due.leaf("s019");
            x.evening(-1);
            x.evening(21);
            DUE.is("count(2)", x.count(2), 0);
            DUE.is("count(3)", x.count(3), 0);
        });
        DUE.sentence("13 STATE without a LEAF, also if THE PAGE is one", () -> {
            BlotLand x = Due.page("s011");
            DUE.is("evening(0)", x.evening(0), BlotLand.STATE);
            x.leaf();
            DUE.is("count(2)", x.count(2), 0);
        });
    }

    private static void hillsByMuch() {
        DUE.sentence("14 as much, or more; one less is too little", () -> {
            BlotLand x = Due.leaf("s415");
            x.evening(0);
            DUE.is("hills(4)", x.hills(4), 1);
            DUE.is("hills(5)", x.hills(5), 1);
            DUE.is("hills(6)", x.hills(6), 0);
        });
        DUE.sentence("14 1 and 99, the least and the most", () -> {
            BlotLand x = Due.leaf("s411,s919");
            x.evening(0);
            DUE.is("1 has 1: hills(1)", x.hills(1), 1);
            Due.evenings(x, 10, 1);
            x.evening(2);
            DUE.is("98 are not 99: hills(99)", x.hills(99), 0);
            x.evening(9);
            DUE.is("99: hills(99)", x.hills(99), 1);
            DUE.is("hills(0)", x.hills(0), BlotLand.OUTSIDE);
            DUE.is("hills(100)", x.hills(100), BlotLand.OUTSIDE);
        });
        DUE.sentence("14 none on a LAND that is dry", () -> DUE.is("hills(1)", Due.leaf("s019").hills(1), 0));
    }

    private static void hillsByRows() {
        DUE.sentence("14 one beside the other are one row, the whole LAND too", () -> {
            BlotLand x = Due.leaf("s059,s559");
            x.evening(1);
            DUE.is("count(4)", x.count(4), 0);
            DUE.is("hills(1)", x.hills(1), 1);
            DUE.is("hills(9)", x.hills(9), 1);
        });
        DUE.sentence("14 a row at each end of the LAND", () -> {
            BlotLand x = Due.leaf("s029,s859");
            x.evening(1);
            DUE.inkIs(x, "two ends", 9, 9, 0, 0, 0, 0, 0, 0, 8, 8);
            DUE.is("hills(8)", x.hills(8), 2);
            DUE.is("hills(9)", x.hills(9), 1);
        });
        DUE.sentence("14 one row to the left of all, one to the right of all", () -> {
            BlotLand left = Due.leaf("s919");
            left.evening(0);
            DUE.is("ink(0) alone: hills(9)", left.hills(9), 1);
            BlotLand right = Due.leaf("s019");
            right.evening(0);
            DUE.is("ink(9) alone: hills(9)", right.hills(9), 1);
        });
        DUE.sentence("14 as many rows as there can be, with none beside them that has", () -> {
            BlotLand x = Due.leaf("s119,s319,s519,s719");
            x.write(0, 9, 1, 9);
            x.evening(4);
            DUE.inkIs(x, "every other", 9, 0, 8, 0, 7, 0, 6, 0, 5, 0);
            DUE.is("hills(5)", x.hills(5), 5);
            DUE.is("hills(6)", x.hills(6), 4);
        });
        DUE.sentence("14 lower CELLS between part a row", () -> {
            BlotLand x = Due.leaf("b214,b417");
            x.evening(1);
            DUE.inkIs(x, "lower between", 0, 0, 0, 0, 3, 7, 4, 3, 1, 0);
            DUE.is("hills(3)", x.hills(3), 1);
            x.sand(1, true);
            x.evening(1);
            DUE.inkIs(x, "lower between", 0, 0, 0, 0, 3, 7, 5, 6, 2, 0);
            DUE.is("hills(6)", x.hills(6), 2);
            DUE.is("hills(5)", x.hills(5), 1);
        });
    }
}
