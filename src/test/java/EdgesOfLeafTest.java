/** Promises 1 to 5 and the text of a LEAF: each sentence that names an edge has a test of its own. */
public final class EdgesOfLeafTest {
    private static final Due DUE = new Due();
    private static final String FOUR = "s011,b959,q519,t051";

    public static void main(String[] args) {
        aNewObject();
        letters();
        blanks();
        faults();
        faultsOfLength();
        leaves();
        noLeaves();
        anotherLeaf();
        DUE.end("EdgesOfLeafTest");
    }

    private static void aNewObject() {
        DUE.sentence("1 no LEAF", () -> {
            DUE.is("count(0)", new BlotLand().count(0), 0);
            DUE.is("about(0, 0)", new BlotLand().about(0, 0), BlotLand.UNKNOWN);
            DUE.is("ink(0)", new BlotLand().ink(0), BlotLand.UNKNOWN);
            DUE.is("image()", new BlotLand().image(), BlotLand.STATE);
        });
        DUE.sentence("1 no LEAF was read", () -> DUE.is("count(7)", new BlotLand().count(7), 0));
        DUE.sentence("1 THE PAGE is empty", () -> {
            DUE.is("count(6)", new BlotLand().count(6), 0);
            DUE.is("letter(115)", new BlotLand().letter('s'), 1);
        });
        DUE.sentence("1 nothing is FOUND", () -> DUE.is("count(5)", new BlotLand().count(5), 0));
        DUE.sentence("1 no EVENINGS", () -> DUE.is("count(2)", new BlotLand().count(2), 0));
        DUE.sentence("1 nothing is SANDED", () -> DUE.is("count(1)", new BlotLand().count(1), 0));
        DUE.sentence("1 no INK", () -> DUE.is("count(3)", new BlotLand().count(3), 0));
        DUE.sentence("1 no IMAGE", () -> {
            DUE.is("restore()", new BlotLand().restore(), BlotLand.STATE);
            DUE.is("behind leaf(): restore()", Due.leaf(FOUR).restore(), BlotLand.STATE);
        });
        DUE.sentence("then the LAND is dry", () -> {
            BlotLand x = Due.leaf(FOUR);
            DUE.inkIs(x, "behind leaf()", 0, 0, 0, 0, 0, 0, 0, 0, 0, 0);
            DUE.is("count(4)", x.count(4), 10);
            DUE.is("count(3)", x.count(3), 0);
            DUE.is("hills(1)", x.hills(1), 0);
        });
    }

    private static void letters() {
        DUE.sentence("2 how many THE PAGE has, from the first to the last", () -> {
            BlotLand x = new BlotLand();
            for (int many = 1; many <= 21; many++) {
                DUE.is("letter number " + many, x.letter(FOUR.charAt(many % 19)), many);
            }
        });
        DUE.sentence("2 code 32 and code 126 come behind THE PAGE", () -> {
            BlotLand x = Due.page(" ~");
            DUE.is("count(6)", x.count(6), 2);
            DUE.is("digest(), each by its code", x.digest(), digestOfAPage(32, 126));
        });
        DUE.sentence("2 31 and 127 come not", () -> {
            BlotLand x = new BlotLand();
            DUE.is("letter(31)", x.letter(31), BlotLand.OUTSIDE);
            DUE.is("letter(127)", x.letter(127), BlotLand.OUTSIDE);
            DUE.is("count(6)", x.count(6), 0);
        });
        DUE.sentence("2 FULL above 21: the 21st comes, the 22nd not", () -> {
            BlotLand x = Due.page(FOUR + "~");
            DUE.is("letter number 21", x.letter(' '), 21);
            DUE.is("letter number 22", x.letter('s'), BlotLand.FULL);
            DUE.is("letter number 23", x.letter('s'), BlotLand.FULL);
            DUE.is("count(6)", x.count(6), 21);
            DUE.is("fault()", x.fault(), 19);
        });
        DUE.sentence("2 full no more: THE PAGE was made empty, or read", () -> {
            BlotLand x = Due.page(FOUR + ",s1");
            x.blank();
            DUE.is("behind blank()", x.letter('s'), 1);
            BlotLand read = Due.leaf(FOUR);
            DUE.is("behind leaf()", read.letter('s'), 1);
        });
    }

    private static long digestOfAPage(int... codes) {
        long h = 1049;
        for (int code : codes) {
            h = 31 * h + code;
        }
        for (int what = 0; what <= 7; what++) {
            h = 31 * h + (what == 6 ? codes.length : 0);
        }
        return h;
    }

    private static void blanks() {
        DUE.sentence("3 an empty PAGE had none", () -> {
            BlotLand x = new BlotLand();
            DUE.is("blank()", x.blank(), 0);
            DUE.is("blank() again", x.blank(), 0);
        });
        DUE.sentence("3 a PAGE of one", () -> DUE.is("blank()", Due.page("~").blank(), 1));
        DUE.sentence("3 a full PAGE", () -> DUE.is("blank()", Due.page(FOUR + "~~").blank(), 21));
        DUE.sentence("3 then it is empty", () -> {
            BlotLand x = Due.page(FOUR + "~~");
            x.blank();
            DUE.is("count(6)", x.count(6), 0);
            DUE.is("fault()", x.fault(), 0);
            DUE.is("blank()", x.blank(), 0);
            DUE.is("digest(), no letters", x.digest(), digestOfAPage());
        });
    }

    private static void faults() {
        DUE.sentence("4 an empty PAGE has no fault", () -> faultIs("", 0));
        DUE.sentence("4 the KINDS are s, b, q, f, t, and no other letter", () -> {
            for (char c = 32; c <= 126; c++) {
                faultIs("" + c, "sbqft".indexOf(c) >= 0 ? 1 : 0);
                faultIs("s011," + c, "sbqft".indexOf(c) >= 0 ? 6 : 5);
            }
        });
        DUE.sentence("4 it BEGINS at 0 to 9", () -> digitsAt("s", '0', '9'));
        DUE.sentence("4 it is 1 to 5 long", () -> {
            digitsAt("s0", '1', '5');
            digitsAt("b9", '1', '5');
        });
        DUE.sentence("4 PRESS is 1 to 9", () -> {
            digitsAt("s01", '1', '9');
            digitsAt("t95", '1', '9');
        });
        DUE.sentence("4 the same of a later STROKE", () -> {
            digitsAt("s011,q", '0', '9');
            digitsAt("s011,b959,f9", '1', '5');
            digitsAt("s011,b959,q519,t05", '1', '9');
        });
        DUE.sentence("4 with a comma between, and nothing else", () -> {
            for (char c = 32; c <= 126; c++) {
                faultIs("s011" + c, c == ',' ? 5 : 4);
                faultIs("s011,b959,q519" + c, c == ',' ? 15 : 14);
            }
        });
        DUE.sentence("4 the first one, behind those ahead of it", () -> {
            faultIs("s01~,x011", 3);
            faultIs("s0111,b011", 4);
            faultIs(" " + FOUR, 0);
            faultIs("s01,011", 3);
        });
    }

    private static void faultsOfLength() {
        DUE.sentence("4 how many letters it has, if there is none", () -> {
            for (int size = 0; size <= FOUR.length(); size++) {
                faultIs(FOUR.substring(0, size), size);
            }
        });
        DUE.sentence("4 behind four STROKES no LEAF has any letter", () -> {
            for (char c = 32; c <= 126; c++) {
                faultIs(FOUR + c, 19);
            }
            faultIs(FOUR + ",s", 19);
        });
        DUE.sentence("4 it leaves THE PAGE as it is", () -> {
            BlotLand x = Due.page("s011~");
            DUE.is("fault()", x.fault(), 4);
            DUE.is("fault() again", x.fault(), 4);
            DUE.is("count(6)", x.count(6), 5);
        });
    }

    /** Behind what stands ahead, of all letters just those from the least to the most are no fault. */
    private static void digitsAt(String ahead, char least, char most) {
        for (char c = 32; c <= 126; c++) {
            faultIs(ahead + c, c >= least && c <= most ? ahead.length() + 1 : ahead.length());
        }
    }

    private static void faultIs(String text, int want) {
        DUE.is("fault() of \"" + text + "\"", Due.page(text).fault(), want);
    }

    private static void leaves() {
        DUE.sentence("5 one STROKE at least", () -> DUE.is("leaf()", Due.page("s011").leaf(), 1));
        DUE.sentence("5 four STROKES at most", () -> DUE.is("leaf()", Due.page(FOUR).leaf(), 4));
        DUE.sentence("5 the STROKES are numbered from 0", () -> {
            BlotLand x = Due.leaf(FOUR);
            DUE.is("about(0, 0)", x.about(0, 0), 0);
            DUE.is("about(3, 0)", x.about(3, 0), 4);
            DUE.is("about(4, 0)", x.about(4, 0), BlotLand.UNKNOWN);
        });
        DUE.sentence("5 THE PAGE is empty then", () -> {
            BlotLand x = Due.leaf(FOUR);
            DUE.is("count(6)", x.count(6), 0);
            DUE.is("leaf() of it", x.leaf(), BlotLand.STATE);
        });
    }

    private static void noLeaves() {
        DUE.sentence("5 STATE: an empty PAGE is none", () -> noLeafIs(""));
        DUE.sentence("5 STATE: a LEAF that is not all there is none", () -> {
            for (int size = 1; size < FOUR.length(); size++) {
                if (size % 5 != 4) {
                    noLeafIs(FOUR.substring(0, size));
                }
            }
        });
        DUE.sentence("5 STATE: five STROKES are none, nor any letter behind four", () -> {
            noLeafIs(FOUR + ",");
            noLeafIs(FOUR + ",s");
            noLeafIs(FOUR + " ");
        });
        DUE.sentence("5 STATE: numbers just outside", () -> {
            noLeafIs("s/11");
            noLeafIs("s:11");
            noLeafIs("s001");
            noLeafIs("s061");
            noLeafIs("s010");
            noLeafIs("s01:");
        });
        DUE.sentence("5 STATE: letters too many, ahead or behind", () -> {
            noLeafIs(" s011");
            noLeafIs("s011 ");
            noLeafIs("s0111");
            noLeafIs("s011;b011");
            noLeafIs("S011");
        });
    }

    private static void noLeafIs(String text) {
        BlotLand x = Due.leaf("q237,b511");
        x.evening(1);
        long land = x.digest();
        Due.type(x, text);
        DUE.is("leaf() of \"" + text + "\"", x.leaf(), BlotLand.STATE);
        DUE.is("\"" + text + "\" stays on THE PAGE: blank()", x.blank(), text.length());
        DUE.is("the LEAF and the LAND stay: digest()", x.digest(), land);
    }

    private static void anotherLeaf() {
        DUE.sentence("5 another one is gone: its STROKES", () -> {
            DUE.is("count(0)", another().count(0), 1);
            DUE.is("about(0, 0)", another().about(0, 0), 3);
            DUE.is("about(1, 0)", another().about(1, 0), BlotLand.UNKNOWN);
        });
        DUE.sentence("5 with all that was: which are SANDED", () -> {
            DUE.is("count(1)", another().count(1), 0);
            DUE.is("about(0, 4)", another().about(0, 4), 0);
            DUE.is("wet(0, 0)", another().wet(0, 0), 9);
        });
        DUE.sentence("5 nor is one SANDED that is written later", () -> {
            BlotLand x = another();
            for (int k = 1; k <= 5; k++) {
                x.write(0, 0, 1, 1);
                DUE.is("about(" + k + ", 4)", x.about(k, 4), 0);
            }
        });
        DUE.sentence("5 with all that was: EVENINGS", () -> DUE.is("count(2)", another().count(2), 0));
        DUE.sentence("5 with all that was: what is FOUND", () -> {
            DUE.is("count(5)", another().count(5), 0);
            DUE.is("about(0, 5)", another().about(0, 5), 511);
        });
        DUE.sentence("5 with all that was: the IMAGE", () ->
            DUE.is("restore()", another().restore(), BlotLand.STATE));
        DUE.sentence("5 the LAND is dry", () -> {
            DUE.inkIs(another(), "another", 0, 0, 0, 0, 0, 0, 0, 0, 0, 0);
            DUE.is("count(4)", another().count(4), 10);
        });
        DUE.sentence("5 but how often a LEAF was read goes on", () -> DUE.is("count(7)", another().count(7), 2));
    }

    private static BlotLand another() {
        BlotLand x = Due.leaf("t059,b534,q719,t413");
        x.write(0, 0, 5, 9);
        x.write(1, 5, 5, 9);
        Due.evenings(x, 12, 5);
        for (int k = 0; k <= 5; k++) {
            x.sand(k, true);
            x.found(k, 5, 99);
        }
        x.image();
        Due.type(x, "f659");
        x.leaf();
        return x;
    }
}
