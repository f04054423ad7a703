/** Promises 15 to 20, CLOSE, SAND, FOUND, LOOK and YEARS: each sentence that names an edge has a test of its own. */
public final class EdgesOfWouldBeTest {
    private static final Due DUE = new Due();

    public static void main(String[] args) {
        closes();
        closesAtTheEnds();
        toSands();
        toSandsOfTheLand();
        finds();
        forgets();
        looks();
        looksAtNothing();
        years();
        yearsByDraws();
        DUE.end("EdgesOfWouldBeTest");
    }

    private static void closes() {
        DUE.sentence("15 the first of several MINUTES", () -> {
            DUE.is("q019: close(9, 9)", Due.leaf("q019").close(9, 9), 0);
            DUE.is("q019: close(9, 8)", Due.leaf("q019").close(9, 8), 2);
            DUE.is("it grows and dries: close(9, 5)", Due.leaf("s015,s012").close(9, 5), 0);
            DUE.is("it grows and dries: close(9, 4)", Due.leaf("s015,s012").close(9, 4), 2);
        });
        DUE.sentence("15 just so much: none, if it is passed over", () -> {
            DUE.is("f019: close(9, 6)", Due.leaf("f019").close(9, 6), 1);
            DUE.is("f019: close(9, 7)", Due.leaf("f019").close(9, 7), BlotLand.NONE);
            DUE.is("f019: close(9, 5)", Due.leaf("f019").close(9, 5), BlotLand.NONE);
        });
        DUE.sentence("15 none, if never so much comes", () -> {
            DUE.is("s019: close(9, 10)", Due.leaf("s019").close(9, 10), BlotLand.NONE);
            DUE.is("s019: close(8, 1)", Due.leaf("s019").close(8, 1), BlotLand.NONE);
        });
        DUE.sentence("15 to the first and to the last CELL", () -> {
            DUE.is("s911: close(0, 1)", Due.leaf("s911").close(0, 1), 0);
            DUE.is("s012: close(9, 1)", Due.leaf("s012").close(9, 1), 1);
        });
    }

    private static void closesAtTheEnds() {
        DUE.sentence("15 much 0: ahead of the STROKE, or when it is dry", () -> {
            DUE.is("s011,s519: close(4, 0)", Due.leaf("s011,s519").close(4, 0), 0);
            DUE.is("s013: close(9, 0)", Due.leaf("s013").close(9, 0), 3);
            DUE.is("t019: close(9, 0)", Due.leaf("t019").close(9, 0), 12);
        });
        DUE.sentence("15 much 99: never", () -> DUE.is("close(9, 99)", Due.leaf("t019").close(9, 99), BlotLand.NONE));
        DUE.sentence("15 MINUTE 20 is the last", () -> {
            BlotLand x = Due.leaf("s011,s011,s011,s011");
            x.write(2, 9, 1, 9);
            DUE.is("at MINUTE 20: close(0, 1)", x.close(0, 1), 20);
            x.write(2, 5, 1, 9);
            DUE.is("at MINUTE 21: close(4, 1)", x.close(4, 1), BlotLand.NONE);
            DUE.is("at MINUTE 19: close(4, 2)", x.close(4, 2), 19);
        });
        DUE.sentence("15 SANDED none comes, at once", () -> {
            BlotLand x = Due.leaf("s019");
            x.sand(0, true);
            DUE.is("close(9, 0)", x.close(9, 0), 0);
            DUE.is("close(9, 9)", x.close(9, 9), BlotLand.NONE);
        });
        DUE.sentence("15 what would come, whatever INK there is", () -> {
            BlotLand x = Due.leaf("s019");
            Due.evenings(x, 12, 0);
            DUE.is("close(9, 9)", x.close(9, 9), 0);
            DUE.is("close(9, 0)", x.close(9, 0), 9);
        });
    }

    private static void toSands() {
        DUE.sentence("16 no CELLS: none", () -> toSandIs(Due.leaf("s059,b555"), 1, 0, 0));
        DUE.sentence("16 all CELLS: all that come to any", () -> toSandIs(Due.leaf("s059,b555,s419"), 1, 1023, 1 + 2));
        DUE.sentence("16 each CELL by its bit, the first and the last", () -> {
            BlotLand x = Due.leaf("s019,s919");
            toSandIs(x, 1, 1, 2);
            toSandIs(x, 1, 512, 1);
            toSandIs(x, 1, 513, 3);
            toSandIs(x, 1, 1023 - 513, 0);
        });
        DUE.sentence("16 of those that are not SANDED", () -> {
            BlotLand x = Due.leaf("s059,s059");
            x.sand(0, true);
            toSandIs(x, 1, 1023, 2);
            x.sand(1, true);
            toSandIs(x, 1, 1023, 0);
        });
        DUE.sentence("16 all six, and the sixth alone", () -> {
            BlotLand x = Due.leaf("t019,t019,t019,t019");
            x.write(4, 0, 1, 9);
            x.write(4, 8, 1, 9);
            toSandIs(x, 5, 1023, 63);
            toSandIs(x, 5, 2, 32);
        });
    }

    private static void toSandsOfTheLand() {
        DUE.sentence("16 at MINUTE 0, ahead of the others, and at MINUTE 20", () -> {
            BlotLand x = Due.leaf("s059,s059,s059,s059");
            x.write(2, 0, 5, 9);
            toSandIs(x, 0, 1023, 1);
            toSandIs(x, 20, 1023, 16);
        });
        DUE.sentence("16 nothing would come: the last MINUTE that it is WET, and the first that it is dry", () -> {
            toSandIs(Due.leaf("s013"), 2, 1023, 1);
            toSandIs(Due.leaf("s013"), 3, 1023, 0);
        });
        DUE.sentence("16 beside a BLOT: half of 2 comes, half of 1 does not", () -> {
            toSandIs(Due.leaf("b413"), 1, 64, 1);
            toSandIs(Due.leaf("b413"), 2, 64, 0);
            toSandIs(Due.leaf("b413"), 2, 32, 1);
            toSandIs(Due.leaf("b413"), 1, 128, 0);
        });
        DUE.sentence("16 a CELL that has INK, and comes no more, wants no SAND", () -> {
            BlotLand x = Due.leaf("s019");
            x.evening(0);
            toSandIs(x, 9, 512, 0);
        });
    }

    private static void toSandIs(BlotLand x, int minute, int cells, int bits) {
        DUE.is("toSand(" + minute + ", " + cells + ", 1)", x.toSand(minute, cells, 1), bits);
        DUE.is("toSand(" + minute + ", " + cells + ", 0)", x.toSand(minute, cells, 0), Integer.bitCount(bits));
    }

    private static void finds() {
        DUE.sentence("17 how much is, from 1 to 6; FULL", () -> {
            BlotLand x = Due.leaf("s019");
            for (int many = 1; many <= 6; many++) {
                DUE.is("found number " + many, x.found(9, 0, 9), many);
            }
            DUE.is("found number 7", x.found(9, 0, 9), BlotLand.FULL);
            DUE.is("found number 7, against it", x.found(9, 0, 8), BlotLand.FULL);
            DUE.is("count(5)", x.count(5), 6);
            DUE.is("about(0, 5)", x.about(0, 5), 256);
        });
        DUE.sentence("17 much 0 and much 99", () -> {
            BlotLand x = Due.leaf("s019");
            DUE.is("found(0, 0, 0)", x.found(0, 0, 0), 1);
            DUE.is("about(0, 5)", x.about(0, 5), 511);
            DUE.is("found(0, 0, 99)", x.found(0, 0, 99), 2);
            DUE.is("about(0, 5)", x.about(0, 5), 0);
        });
        DUE.sentence("17 CELL 0 and CELL 9, MINUTE 0 and MINUTE 20", () -> {
            BlotLand x = Due.leaf("s011,s011,s011,s011");
            x.write(2, 9, 1, 9);
            DUE.is("found(0, 20, 1)", x.found(0, 20, 1), 1);
            DUE.is("about(4, 5)", x.about(4, 5), 256);
            DUE.is("found(9, 0, 1)", x.found(9, 0, 1), 2);
            DUE.is("about(4, 5)", x.about(4, 5), 256);
            DUE.is("about(0, 5)", x.about(0, 5), 1);
        });
        DUE.sentence("17 it is told, whether it can be or not, and is not pressed off", () -> {
            BlotLand x = Due.leaf("s019");
            DUE.is("found(3, 3, 33)", x.found(3, 3, 33), 1);
            DUE.is("count(2)", x.count(2), 0);
            DUE.is("count(3)", x.count(3), 0);
        });
    }

    private static void forgets() {
        DUE.sentence("18 nothing was, also without a LEAF", () -> {
            DUE.is("forget()", new BlotLand().forget(), 0);
            DUE.is("forget()", Due.leaf("s019").forget(), 0);
        });
        DUE.sentence("18 six were, and there is room for six again", () -> {
            BlotLand x = Due.leaf("s019");
            for (int i = 1; i <= 6; i++) {
                x.found(0, 0, 1);
            }
            DUE.is("forget()", x.forget(), 6);
            DUE.is("forget() again", x.forget(), 0);
            DUE.is("none is against it: about(0, 5)", x.about(0, 5), 511);
            for (int many = 1; many <= 6; many++) {
                DUE.is("found number " + many, x.found(9, 0, 9), many);
            }
            DUE.is("found number 7", x.found(9, 0, 9), BlotLand.FULL);
        });
    }

    private static void looks() {
        DUE.sentence("19 fewest are left at worst", () -> {
            DUE.is("the BLOT, not beside it: look(0, 0)", Due.leaf("b519").look(0, 0), 4);
            DUE.is("the last CELL: look(0, 0)", Due.leaf("b019").look(0, 0), 9);
            DUE.is("the first CELL: look(0, 0)", Due.leaf("b919").look(0, 0), 0);
        });
        DUE.sentence("19 of like ones the least", () -> {
            DUE.is("s059: look(0, 0)", Due.leaf("s059").look(0, 0), 5);
            DUE.is("s859: look(0, 0)", Due.leaf("s859").look(0, 0), 0);
            BlotLand beside = Due.leaf("b419");
            beside.found(5, 3, 0);
            DUE.is("1, 2 or 3, the first of them told from the others beside it, too", beside.look(0, 0), 5);
            beside.found(5, 2, 0);
            DUE.is("1 or 2, told from one another beside it, too", beside.look(0, 0), 4);
        });
        DUE.sentence("19 none, if no PRESS can be", () -> {
            BlotLand x = Due.leaf("s059");
            x.found(0, 0, 1);
            for (int minute = 0; minute <= 20; minute++) {
                DUE.is("look(0, " + minute + ")", x.look(0, minute), BlotLand.NONE);
            }
        });
        DUE.sentence("19 one PRESS alone: all are like, CELL 0", () -> {
            BlotLand x = Due.leaf("s059");
            x.found(9, 0, 9);
            DUE.is("about(0, 5)", x.about(0, 5), 256);
            DUE.is("look(0, 0)", x.look(0, 0), 0);
            x.forget();
            x.found(9, 0, 1);
            DUE.is("about(0, 5)", x.about(0, 5), 1);
            DUE.is("look(0, 0)", x.look(0, 0), 0);
        });
    }

    private static void looksAtNothing() {
        DUE.sentence("19 at the last MINUTE that one can be WET, and the first that none can", () -> {
            DUE.is("s019: look(0, 8)", Due.leaf("s019").look(0, 8), 9);
            DUE.is("s019: look(0, 9)", Due.leaf("s019").look(0, 9), 0);
            DUE.is("t011: look(0, 11)", Due.leaf("t011").look(0, 11), 9);
            DUE.is("t011: look(0, 12)", Due.leaf("t011").look(0, 12), 0);
        });
        DUE.sentence("19 ahead of its MINUTE nothing is told: CELL 0", () -> {
            DUE.is("look(1, 0)", Due.leaf("s011,s059").look(1, 0), 0);
            DUE.is("look(1, 1)", Due.leaf("s011,s059").look(1, 1), 5);
        });
        DUE.sentence("19 SANDED nothing is told: CELL 0", () -> {
            BlotLand x = Due.leaf("s059");
            x.sand(0, true);
            DUE.is("look(0, 0)", x.look(0, 0), 0);
            x.found(9, 0, 9);
            DUE.is("no PRESS can be: look(0, 0)", x.look(0, 0), BlotLand.NONE);
        });
        DUE.sentence("19 at MINUTE 20", () -> {
            BlotLand x = Due.leaf("s011,s011,s011,s011");
            x.write(2, 0, 1, 9);
            DUE.is("of 9 alone 1 is left: look(4, 20)", x.look(4, 20), 9);
            DUE.is("look(4, 21)", x.look(4, 21), BlotLand.OUTSIDE);
        });
    }

    private static void years() {
        DUE.sentence("20 one EVENING, and sixty", () -> {
            // Only MINUTE 0 gives anything, and of the draws of seed 20 only the sixtieth is 0.
            BlotLand x = Due.leaf("f011");
            DUE.is("years(1, 0, 0)", x.years(1, 0, 0), 1);
            DUE.is("years(59, 20, 0)", x.years(59, 20, 0), 0);
            DUE.is("years(60, 20, 0)", x.years(60, 20, 0), 1);
            DUE.is("years(60, 20, 2)", x.years(60, 20, 2), 729434664);
        });
        DUE.sentence("20 INK grows to 99, and no further", () -> {
            BlotLand x = Due.leaf("s059,s559");
            DUE.is("years(60, 5, 0)", x.years(60, 5, 0), 990);
            DUE.is("years(60, 5, 1)", x.years(60, 5, 1), 0);
            BlotLand one = Due.leaf("s019");
            Due.evenings(one, 10, 0);
            one.evening(1);
            DUE.is("98 and 9: years(1, 0, 0)", one.years(1, 0, 0), 99);
        });
        DUE.sentence("20 how many CELLS are dry: ten, and none", () -> {
            DUE.is("s059: years(1, 1, 1)", Due.leaf("s059").years(1, 1, 1), 10);
            DUE.is("s059: years(1, 0, 1)", Due.leaf("s059").years(1, 0, 1), 5);
            BlotLand all = Due.leaf("s059,s559");
            all.evening(1);
            DUE.is("years(1, 1, 1)", all.years(1, 1, 1), 0);
        });
        DUE.sentence("20 on the LAND as it is, which stays", () -> {
            BlotLand x = Due.leaf("f013");
            x.evening(0);
            DUE.is("years(1, 1, 0)", x.years(1, 1, 0), 3);
            DUE.is("years(1, 0, 0)", x.years(1, 0, 0), 6);
            DUE.is("years(1, 0, 0) again", x.years(1, 0, 0), 6);
            DUE.is("ink(9)", x.ink(9), 3);
            DUE.is("count(2)", x.count(2), 1);
        });
    }

    private static void yearsByDraws() {
        DUE.sentence("DRAWS of 21: MINUTE 0 and MINUTE 20", () -> {
            BlotLand x = Due.leaf("f011,s011,s011,s011");
            x.write(2, 9, 1, 9);
            DUE.is("MINUTE 0: years(1, 0, 0)", x.years(1, 0, 0), 1);
            DUE.is("MINUTE 20: years(1, 17, 0)", x.years(1, 17, 0), 1);
            DUE.is("MINUTE 20: the seed then", x.years(1, 17, 2), 1579902326);
        });
        DUE.sentence("DRAWS: the SEED's rest by 2 to the 31", () -> {
            BlotLand x = Due.leaf("s019");
            DUE.is("no rest to take: years(1, 1, 2)", x.years(1, 1, 2), 1103515245 + 12345);
            DUE.is("above 2 to the 31: years(1, 2, 2)", x.years(1, 2, 2), 59559187);
            DUE.is("the second: years(2, 1, 2)", x.years(2, 1, 2), 377401575);
            DUE.is("the greatest seed: years(1, 2147483647, 2)", x.years(1, Integer.MAX_VALUE, 2), 1043980748);
            DUE.is("the greatest but one", x.years(1, Integer.MAX_VALUE - 1, 2), 2087949151);
        });
        DUE.sentence("DRAWS: seed 0 is one, too", () -> {
            BlotLand x = Due.leaf("s019");
            DUE.is("years(1, 0, 2)", x.years(1, 0, 2), 12345);
            DUE.is("years(2, 0, 2)", x.years(2, 0, 2), 1406932606);
            DUE.is("years(1, -1, 2)", x.years(1, -1, 2), BlotLand.OUTSIDE);
        });
        DUE.sentence("DRAWS: by 65536, rounded down, its rest", () -> {
            // Of seed 2 the seed then is 59559187, 908 times 65536 and some: MINUTE 5; of the greatest it is 11.
            DUE.is("s016: years(1, 2, 0)", Due.leaf("s016").years(1, 2, 0), 1);
            DUE.is("s015: years(1, 2, 0)", Due.leaf("s015").years(1, 2, 0), 0);
            DUE.is("t019: years(1, 2147483647, 0)", Due.leaf("t019").years(1, Integer.MAX_VALUE, 0), 1);
            DUE.is("t018: years(1, 2147483647, 0)", Due.leaf("t018").years(1, Integer.MAX_VALUE, 0), 0);
        });
    }
}
