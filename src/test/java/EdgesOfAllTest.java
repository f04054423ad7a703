import java.math.BigInteger;

/** Promises 21 to 24 and the IMAGE: each sentence that names an edge has a test of its own. */
public final class EdgesOfAllTest {
    private static final Due DUE = new Due();

    public static void main(String[] args) {
        images();
        restores();
        restoresOfAll();
        noRestores();
        counts();
        countsOfTheLand();
        digests();
        digestWraps();
        askedAlone();
        DUE.end("EdgesOfAllTest");
    }

    private static void images() {
        DUE.sentence("21 how many EVENINGS there were: none", () -> DUE.is("image()", Due.leaf("s019").image(), 0));
        DUE.sentence("21 how many EVENINGS there were: many", () -> {
            BlotLand x = Due.leaf("s019");
            Due.evenings(x, 100, 0);
            DUE.is("image()", x.image(), 100);
        });
        DUE.sentence("21 one IMAGE, the latest", () -> {
            BlotLand x = Due.leaf("s019");
            x.evening(0);
            x.image();
            x.evening(1);
            x.image();
            x.evening(2);
            DUE.is("restore()", x.restore(), 2);
            DUE.is("ink(9)", x.ink(9), 9 + 8);
            DUE.is("not the one ahead of it: restore()", x.restore(), 2);
        });
        DUE.sentence("21 STATE without a LEAF, also if THE PAGE is one", () -> {
            BlotLand x = Due.page("s011");
            DUE.is("image()", x.image(), BlotLand.STATE);
            DUE.is("restore()", x.restore(), BlotLand.STATE);
            x.leaf();
            DUE.is("none was kept: restore()", x.restore(), BlotLand.STATE);
        });
    }

    private static void restores() {
        DUE.sentence("22 how many EVENINGS there were as it was kept: none", () -> {
            BlotLand x = Due.leaf("s019");
            x.image();
            Due.evenings(x, 3, 0);
            DUE.is("restore()", x.restore(), 0);
            DUE.is("count(2)", x.count(2), 0);
        });
        DUE.sentence("22 it goes on from there: EVENINGS are counted on", () -> {
            BlotLand x = Due.leaf("s019");
            Due.evenings(x, 2, 0);
            x.image();
            Due.evenings(x, 3, 0);
            x.restore();
            x.evening(0);
            DUE.is("count(2)", x.count(2), 3);
            DUE.is("ink(9)", x.ink(9), 27);
        });
        DUE.sentence("22 nothing was done since", () -> {
            BlotLand x = changed();
            x.image();
            long before = x.digest();
            DUE.is("restore()", x.restore(), 1);
            DUE.is("digest()", x.digest(), before);
        });
        DUE.sentence("22 once more: the IMAGE stays as it was kept", () -> {
            BlotLand x = changed();
            x.image();
            long before = x.digest();
            for (int i = 0; i < 3; i++) {
                x.evening(i);
                x.sand(i, i != 1);
                x.found(i, i, i);
                x.write(4, i, 5, 9);
                x.restore();
                DUE.is("digest()", x.digest(), before);
            }
        });
        DUE.sentence("22 THE PAGE is not of it", () -> {
            BlotLand x = Due.leaf("s019");
            Due.type(x, "s0");
            x.image();
            Due.type(x, "11");
            x.restore();
            DUE.is("count(6)", x.count(6), 4);
            DUE.is("leaf()", x.leaf(), 1);
        });
    }

    private static BlotLand changed() {
        BlotLand x = Due.leaf("s059,b534,q719");
        x.evening(2);
        x.sand(1, true);
        x.found(5, 2, 5);
        return x;
    }

    private static void restoresOfAll() {
        DUE.sentence("22 how many STROKES there are: none more, up to six", () -> {
            BlotLand x = changed();
            x.image();
            for (int k = 3; k <= 5; k++) {
                x.write(0, 0, 1, 1);
            }
            x.restore();
            DUE.is("count(0)", x.count(0), 3);
            DUE.is("about(3, 0)", x.about(3, 0), BlotLand.UNKNOWN);
            DUE.is("sand(3, true)", x.sand(3, true), BlotLand.UNKNOWN);
            DUE.is("comes(9, 5)", x.comes(9, 5), 4);
            for (int k = 3; k <= 5; k++) {
                DUE.is("write()", x.write(0, 0, 1, 1), k);
            }
            DUE.is("write()", x.write(0, 0, 1, 1), BlotLand.FULL);
        });
        DUE.sentence("22 six STROKES are six again", () -> {
            BlotLand x = changed();
            for (int k = 3; k <= 5; k++) {
                x.write(0, 0, 1, 1);
            }
            x.image();
            x.restore();
            DUE.is("count(0)", x.count(0), 6);
            DUE.is("write()", x.write(0, 0, 1, 1), BlotLand.FULL);
        });
        DUE.sentence("22 which are SANDED, and which are not", () -> {
            BlotLand x = changed();
            x.image();
            x.sand(0, true);
            x.sand(1, false);
            x.write(0, 0, 1, 1);
            x.sand(3, true);
            x.restore();
            DUE.is("count(1)", x.count(1), 1);
            DUE.is("about(0, 4)", x.about(0, 4), 0);
            DUE.is("about(1, 4)", x.about(1, 4), 1);
            x.write(0, 0, 1, 1);
            DUE.is("one written then: about(3, 4)", x.about(3, 4), 0);
        });
        DUE.sentence("22 INK: a LAND that was dry, and one that is full", () -> {
            BlotLand x = Due.leaf("s059,s559");
            x.image();
            Due.evenings(x, 15, 1);
            x.restore();
            DUE.is("count(4)", x.count(4), 10);
            Due.evenings(x, 15, 1);
            x.image();
            x.evening(1);
            x.restore();
            DUE.is("count(3)", x.count(3), 990);
        });
        DUE.sentence("22 what is FOUND: none, and six", () -> {
            BlotLand x = Due.leaf("s019");
            x.image();
            x.found(0, 0, 1);
            x.restore();
            DUE.is("count(5)", x.count(5), 0);
            DUE.is("about(0, 5)", x.about(0, 5), 511);
            for (int i = 1; i <= 6; i++) {
                x.found(9, 0, 3);
            }
            x.image();
            x.forget();
            x.found(9, 0, 5);
            x.restore();
            DUE.is("found()", x.found(9, 0, 3), BlotLand.FULL);
            DUE.is("about(0, 5)", x.about(0, 5), 4);
        });
        DUE.sentence("22 what is FOUND: how much, where and when", () -> {
            BlotLand x = Due.leaf("b515");
            x.found(4, 3, 0);
            x.image();
            x.forget();
            x.found(4, 1, 3);
            DUE.is("PRESS 4: about(0, 5)", x.about(0, 5), 8);
            x.restore();
            DUE.is("at MINUTE 3 none: about(0, 5)", x.about(0, 5), 1 + 2 + 4);
            x.forget();
            x.found(5, 3, 0);
            x.restore();
            DUE.is("not beside it: about(0, 5)", x.about(0, 5), 1 + 2 + 4);
        });
    }

    private static void noRestores() {
        DUE.sentence("22 STATE: none was kept", () -> {
            DUE.is("no LEAF: restore()", new BlotLand().restore(), BlotLand.STATE);
            DUE.is("restore()", changed().restore(), BlotLand.STATE);
        });
        DUE.sentence("22 STATE: a LEAF was read since", () -> readSince("q011"));
        DUE.sentence("22 STATE: of the same text, too", () -> readSince("s059,b534,q719"));
        DUE.sentence("22 no STATE: of a PAGE that is no LEAF none was read", () -> {
            BlotLand x = changed();
            x.image();
            Due.type(x, "s059,");
            DUE.is("leaf()", x.leaf(), BlotLand.STATE);
            DUE.is("restore()", x.restore(), 1);
        });
        DUE.sentence("22 no STATE: it was gone back to once", () -> {
            BlotLand x = changed();
            x.image();
            x.evening(0);
            for (int i = 1; i <= 5; i++) {
                DUE.is("restore()", x.restore(), 1);
            }
        });
        DUE.sentence("22 STATE: a LEAF was read since, though it was gone back to ahead of that", () -> {
            BlotLand x = changed();
            x.image();
            x.restore();
            Due.type(x, "q011");
            x.leaf();
            DUE.is("restore()", x.restore(), BlotLand.STATE);
        });
        DUE.sentence("22 no STATE: an IMAGE of the LEAF that was read since", () -> {
            BlotLand x = readSince("q011");
            DUE.is("image()", x.image(), 0);
            DUE.is("restore()", x.restore(), 0);
        });
    }

    private static BlotLand readSince(String text) {
        BlotLand x = changed();
        x.image();
        Due.type(x, text);
        x.leaf();
        long before = x.digest();
        DUE.is("restore()", x.restore(), BlotLand.STATE);
        DUE.is("it changes nothing: digest()", x.digest(), before);
        return x;
    }

    private static void counts() {
        DUE.sentence("23 of a new object none", () -> {
            for (int what = 0; what <= 7; what++) {
                DUE.is("count(" + what + ")", new BlotLand().count(what), 0);
            }
        });
        DUE.sentence("23 the first and the last that can be told", () -> {
            DUE.is("count(0)", changed().count(0), 3);
            DUE.is("count(7)", changed().count(7), 1);
            DUE.is("count(-1)", changed().count(-1), BlotLand.OUTSIDE);
            DUE.is("count(8)", changed().count(8), BlotLand.OUTSIDE);
        });
        DUE.sentence("23 STROKES, SANDED, FOUND: 6 at most", () -> {
            BlotLand x = full();
            DUE.is("count(0)", x.count(0), 6);
            DUE.is("count(1)", x.count(1), 6);
            DUE.is("count(5)", x.count(5), 6);
            x.write(0, 0, 1, 1);
            x.found(0, 0, 0);
            DUE.is("count(0)", x.count(0), 6);
            DUE.is("count(5)", x.count(5), 6);
        });
        DUE.sentence("23 letters of THE PAGE: 21 at most", () -> {
            DUE.is("count(6)", full().count(6), 21);
            BlotLand x = full();
            x.letter('s');
            DUE.is("count(6)", x.count(6), 21);
        });
        DUE.sentence("23 how often a LEAF was read: what was none is not counted", () -> {
            BlotLand x = Due.page("s01");
            x.leaf();
            DUE.is("count(7)", x.count(7), 0);
            x.letter('1');
            x.leaf();
            DUE.is("count(7)", x.count(7), 1);
            for (int many = 2; many <= 20; many++) {
                Due.type(x, "s011");
                x.leaf();
                DUE.is("count(7)", x.count(7), many);
            }
        });
    }

    private static BlotLand full() {
        BlotLand x = Due.leaf("t059,t519,t611,t711");
        x.write(4, 8, 1, 1);
        x.write(4, 9, 1, 1);
        for (int k = 0; k <= 5; k++) {
            x.sand(k, true);
            x.found(k, 0, 0);
        }
        Due.type(x, "s011,b959,q519,t051,~");
        return x;
    }

    private static void countsOfTheLand() {
        DUE.sentence("23 CELLS that are dry: 0 without a LEAF, 10 of a LEAF just read", () -> {
            BlotLand x = Due.page("s059");
            DUE.is("count(4)", x.count(4), 0);
            x.leaf();
            DUE.is("count(4)", x.count(4), 10);
        });
        DUE.sentence("23 CELLS that are dry: down to 0", () -> {
            BlotLand x = Due.leaf("s059,s551");
            x.evening(0);
            DUE.is("count(4)", x.count(4), 5);
            x.evening(1);
            DUE.is("count(4)", x.count(4), 0);
        });
        DUE.sentence("23 a CELL with 1 is not dry", () -> {
            BlotLand x = Due.leaf("s011");
            x.evening(0);
            DUE.is("count(4)", x.count(4), 9);
            DUE.is("count(3)", x.count(3), 1);
        });
        DUE.sentence("23 INK in all the LAND: 990 at most, none of what has no room", () -> {
            BlotLand x = Due.leaf("s059,s559");
            Due.evenings(x, 30, 1);
            DUE.is("count(3)", x.count(3), 990);
            DUE.is("count(2)", x.count(2), 30);
        });
    }

    private static void digests() {
        DUE.sentence("24 of a new object: the eight counts alone", () -> {
            long h = 1049;
            for (int what = 0; what <= 7; what++) {
                h *= 31;
            }
            DUE.is("digest()", new BlotLand().digest(), h);
        });
        DUE.sentence("24 with a LEAF alone: nothing of the LAND, if THE PAGE is one", () -> {
            long h = 1049;
            for (int number : new int[] {'s', '0', '1', '1', 0, 0, 0, 0, 0, 0, 4, 0}) {
                h = 31 * h + number;
            }
            DUE.is("digest()", Due.page("s011").digest(), h);
        });
        DUE.sentence("24 always, letters of THE PAGE: each by its code, up to the 21st", () -> {
            BlotLand x = Due.leaf("f011");
            long before = x.digest();
            for (int many = 1; many <= 21; many++) {
                x.letter(many % 2 == 0 ? ' ' : '~');
                // Telling all is dear, and an object is used for 512 calls at most.
                if (many <= 2 || many >= 20) {
                    DUE.is("with " + many + ": digest()", x.digest(), told(x, many).longValue());
                }
            }
            x.blank();
            DUE.is("without: digest()", x.digest(), before);
        });
        DUE.sentence("24 LOOK tells NONE as it is", () -> {
            BlotLand x = Due.leaf("s011");
            x.found(0, 0, 1);
            DUE.is("look(0, 6)", x.look(0, 6), BlotLand.NONE);
            DUE.is("digest()", x.digest(), told(x, 0).longValue());
        });
        DUE.sentence("24 of each STROKE, one and six", () -> {
            DUE.is("one: digest()", Due.leaf("b534").digest(), told(Due.leaf("b534"), 0).longValue());
            BlotLand x = Due.leaf("b534,t018,f719,q929");
            x.write(0, 2, 5, 9);
            x.write(3, 6, 5, 9);
            x.evening(5);
            DUE.is("six: digest()", x.digest(), told(x, 0).longValue());
        });
        DUE.sentence("24 it changes nothing", () -> {
            BlotLand x = changed();
            long before = x.digest();
            DUE.is("digest() again", x.digest(), before);
        });
    }

    private static void digestWraps() {
        DUE.sentence("24 at just these MINUTES, for just so much", () -> {
            // Faint ones that LOOK can tell, or can't, at MINUTE 6 and just beside it; rows of 4, 5 and 6; and one
            // that is not there yet at MINUTE 4, but at 5.
            BlotLand x = Due.leaf("q015,q216,s515,f719");
            x.evening(2);
            x.write(3, 9, 1, 9);
            x.write(0, 9, 1, 9);
            DUE.is("look(3, 5)", x.look(3, 5), 2);
            DUE.is("look(3, 6)", x.look(3, 6), 0);
            DUE.is("look(4, 6)", x.look(4, 6), 0);
            DUE.is("toSand(4, 1023, 0)", x.toSand(4, 1023, 0), 5);
            DUE.is("toSand(5, 1023, 0)", x.toSand(5, 1023, 0), 6);
            DUE.is("hills(4)", x.hills(4), 3);
            DUE.is("hills(5)", x.hills(5), 2);
            DUE.is("hills(6)", x.hills(6), 1);
            DUE.is("digest()", x.digest(), told(x, 0).longValue());
            BlotLand later = Due.leaf("s011,s011,s011,s011");
            later.write(3, 4, 1, 9);
            DUE.is("look(4, 6)", later.look(4, 6), 5);
            DUE.is("look(4, 7)", later.look(4, 7), 0);
            DUE.is("digest()", later.digest(), told(later, 0).longValue());
        });
        DUE.sentence("24 as longs, wrapping", () -> {
            BlotLand x = changed();
            BigInteger told = told(x, 0);
            DUE.is("it is longer than a long", told.bitLength() > 64 ? 1 : 0, 1);
            DUE.is("digest()", x.digest(), told.longValue());
            BlotLand page = Due.page("~~~~~~~");
            BigInteger sum = BigInteger.valueOf(1049);
            for (int number : new int[] {126, 126, 126, 126, 126, 126, 126, 0, 0, 0, 0, 0, 0, 7, 0}) {
                sum = sum.multiply(BigInteger.valueOf(31)).add(BigInteger.valueOf(number));
            }
            DUE.is("seven letters: digest()", page.digest(), sum.longValue());
        });
    }

    private static void askedAlone() {
        DUE.sentence("what is asked alone, or would be, changes nothing", () -> {
            BlotLand x = keptAndFull();
            x.fault();
            for (int k = 0; k <= 5; k++) {
                x.about(k, 5);
                x.as(k, 1);
                x.wet(k, k);
                x.look(k, 6);
                x.ink(k);
                x.comes(k, 20);
                x.hills(k);
                x.close(k, 0);
                x.toSand(k, 1023, 1);
                x.years(60, k, k % 3);
                x.count(k);
            }
            x.digest();
            DUE.is("all is as it was", Snapshot.of(x).equals(Snapshot.of(keptAndFull())) ? 1 : 0, 1);
        });
    }

    private static BlotLand keptAndFull() {
        BlotLand x = full();
        x.image();
        x.sand(0, false);
        x.sand(5, false);
        x.evening(5);
        return x;
    }

    /** The digest before it wraps, by the other calls, with so many of the letters "~" and " " in turn on THE PAGE. */
    private static BigInteger told(BlotLand x, int letters) {
        BigInteger h = BigInteger.valueOf(1049);
        for (int k = 0; k < x.count(0); k++) {
            for (int what = 0; what <= 5; what++) {
                h = and(h, x.about(k, what));
            }
            h = and(and(and(h, x.wet(k, 3)), x.wet(k, 9)), x.look(k, 6));
        }
        for (int cell = 0; cell <= 9; cell++) {
            h = and(and(h, x.ink(cell)), x.comes(cell, 4));
        }
        h = and(and(and(h, x.hills(5)), x.toSand(4, 1023, 0)), x.toSand(4, 1023, 1));
        for (int place = 1; place <= letters; place++) {
            h = and(h, place % 2 == 0 ? ' ' : '~');
        }
        for (int what = 0; what <= 7; what++) {
            h = and(h, x.count(what));
        }
        return h;
    }

    private static BigInteger and(BigInteger h, int number) {
        return h.multiply(BigInteger.valueOf(31)).add(BigInteger.valueOf(number));
    }
}
