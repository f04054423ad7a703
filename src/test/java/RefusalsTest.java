import java.util.ArrayList;
import java.util.Arrays;
import java.util.LinkedHashMap;
import java.util.List;
import java.util.Map;
import java.util.TreeMap;
import java.util.function.Supplier;

/**
 * The refusals that promises 2 to 23 name, a test of its own for each: at the last numbers that are allowed and the first
 * that are not, on both sides, in an object without and with a LEAF, and a full one. Where several refusals would fit, the
 * first as told by the call is the due one; and a refused call changes nothing.
 */
public final class RefusalsTest {
    private static final Due DUE = new Due();
    private static final int UNKNOWN = BlotLand.UNKNOWN;
    private static final int OUTSIDE = BlotLand.OUTSIDE;
    private static final int STATE = BlotLand.STATE;
    private static final int FULL = BlotLand.FULL;

    private static final int NOT_REFUSED = 0;
    private static final int SEVERAL = -1;

    private static final int[] STROKES = {Integer.MIN_VALUE, -1, 0, 1, 3, 4, 5, 6, 31, 32, Integer.MAX_VALUE};
    private static final int[] CELLS = edges(0, 9);
    private static final int[] MINUTES = edges(0, 20);
    private static final int[] MUCH = edges(0, 99);

    interface Call {
        int of(BlotLand x, int[] a);
    }

    /** Whether a refusal fits a call with these arguments, in such a state. */
    interface Fits {
        boolean is(State s, int[] a);
    }

    record Refusal(String told, int answer, Fits fits) { }

    /** How many STROKES there are, what is FOUND, the letters of THE PAGE, and whether these are a LEAF, and an IMAGE is. */
    record State(int strokes, int found, int letters, boolean pageIsLeaf, boolean image, Supplier<BlotLand> made) {
        boolean noStroke(int k) {
            return k < 0 || k >= strokes;
        }

        boolean noCell(int cell) {
            return strokes == 0 || out(cell, 0, 9);
        }

        boolean noLeaf() {
            return strokes == 0;
        }
    }

    private static final Map<String, State> STATES = new LinkedHashMap<>();
    private static final Map<String, String> AS_IT_WAS = new TreeMap<>();

    public static void main(String[] args) {
        STATES.put("new", new State(0, 0, 0, false, false, BlotLand::new));
        STATES.put("a page that is no leaf", new State(0, 0, 5, false, false, () -> Due.page("s011,")));
        STATES.put("a page that is a leaf", new State(0, 0, 9, true, false, () -> Due.page("s011,b959")));
        STATES.put("a leaf of one", new State(1, 0, 0, false, false, () -> Due.leaf("b453")));
        STATES.put("a leaf of four, and much more", new State(4, 2, 6, false, true, RefusalsTest::muchMore));
        STATES.put("all is full", new State(6, 6, 21, false, true, RefusalsTest::full));
        STATES.forEach((name, state) -> AS_IT_WAS.put(name, Snapshot.of(state.made.get())));
        statesAreAsTold();
        ofTheLeaf();
        ofStrokes();
        ofTheLand();
        ofWhatWouldBe();
        ofWhatIsFound();
        ofAll();
        DUE.end("RefusalsTest");
    }

    private static BlotLand muchMore() {
        BlotLand x = Due.leaf("s059,b534,q719,t413");
        x.evening(3);
        x.found(4, 3, 6);
        x.sand(1, true);
        x.image();
        x.sand(2, true);
        x.found(0, 0, 0);
        x.evening(5);
        Due.type(x, "s011,x");
        return x;
    }

    private static BlotLand full() {
        BlotLand x = Due.leaf("s059,b534,q719,t413");
        Due.evenings(x, 15, 3);
        x.write(4, 0, 5, 9);
        x.image();
        x.write(3, 9, 5, 9);
        for (int i = 1; i <= 6; i++) {
            x.found(9, 0, 9);
        }
        Due.type(x, "s011,b959,q519,t051,~");
        return x;
    }

    private static void statesAreAsTold() {
        STATES.forEach((name, state) -> DUE.sentence("the state: " + name, () -> {
            BlotLand x = state.made.get();
            DUE.is("count(0)", x.count(0), state.strokes);
            DUE.is("count(5)", x.count(5), state.found);
            DUE.is("count(6)", x.count(6), state.letters);
            DUE.is("whether restore() is refused", x.restore() == STATE ? 1 : 0, state.image ? 0 : 1);
            DUE.is("whether leaf() is refused", x.leaf() == STATE ? 1 : 0, state.pageIsLeaf ? 0 : 1);
        }));
    }

    private static void ofTheLeaf() {
        refusals("2 letter", (x, a) -> x.letter(a[0]), new int[][] {edges(32, 126)},
            new Refusal("OUTSIDE: code (32 to 126)", OUTSIDE, (s, a) -> out(a[0], 32, 126)),
            new Refusal("FULL: above 21", FULL, (s, a) -> s.letters == 21));
        refusals("3 blank", (x, a) -> x.blank(), new int[0][]);
        refusals("4 fault", (x, a) -> x.fault(), new int[0][]);
        refusals("5 leaf", (x, a) -> x.leaf(), new int[0][],
            new Refusal("STATE: it is none", STATE, (s, a) -> !s.pageIsLeaf));
    }

    private static void ofStrokes() {
        Refusal unknown = new Refusal("UNKNOWN", UNKNOWN, (s, a) -> s.noStroke(a[0]));
        refusals("6 about", (x, a) -> x.about(a[0], a[1]), new int[][] {STROKES, edges(0, 5)},
            unknown, new Refusal("OUTSIDE: what (0 to 5)", OUTSIDE, (s, a) -> out(a[1], 0, 5)));
        refusals("7 as", (x, a) -> x.as(a[0], a[1]), new int[][] {STROKES, edges(0, 4)},
            unknown, new Refusal("OUTSIDE: kind (0 to 4)", OUTSIDE, (s, a) -> out(a[1], 0, 4)));
        refusals("8 write", (x, a) -> x.write(a[0], a[1], a[2], a[3]),
            new int[][] {edges(0, 4), CELLS, edges(1, 5), edges(1, 9)},
            new Refusal("OUTSIDE: kind (0 to 4)", OUTSIDE, (s, a) -> out(a[0], 0, 4)),
            new Refusal("OUTSIDE: cell (0 to 9)", OUTSIDE, (s, a) -> out(a[1], 0, 9)),
            new Refusal("OUTSIDE: long (1 to 5)", OUTSIDE, (s, a) -> out(a[2], 1, 5)),
            new Refusal("OUTSIDE: press (1 to 9)", OUTSIDE, (s, a) -> out(a[3], 1, 9)),
            new Refusal("STATE: no LEAF", STATE, (s, a) -> s.noLeaf()),
            new Refusal("FULL: there are 6", FULL, (s, a) -> s.strokes == 6));
        refusals("9 sand", (x, a) -> x.sand(a[0], a[1] == 1), new int[][] {STROKES, {0, 1}}, unknown);
        refusals("10 wet", (x, a) -> x.wet(a[0], a[1]), new int[][] {STROKES, MINUTES},
            unknown, new Refusal("OUTSIDE: minute (0 to 20)", OUTSIDE, (s, a) -> out(a[1], 0, 20)));
    }

    private static void ofTheLand() {
        Refusal unknown = new Refusal("UNKNOWN: cell (0 to 9; also without a LEAF)", UNKNOWN, (s, a) -> s.noCell(a[0]));
        Refusal noLeaf = new Refusal("STATE: no LEAF", STATE, (s, a) -> s.noLeaf());
        refusals("11 ink", (x, a) -> x.ink(a[0]), new int[][] {CELLS}, unknown);
        refusals("12 comes", (x, a) -> x.comes(a[0], a[1]), new int[][] {CELLS, MINUTES},
            unknown, new Refusal("OUTSIDE: minute (0 to 20)", OUTSIDE, (s, a) -> out(a[1], 0, 20)));
        refusals("13 evening", (x, a) -> x.evening(a[0]), new int[][] {MINUTES},
            new Refusal("OUTSIDE: minute (0 to 20)", OUTSIDE, (s, a) -> out(a[0], 0, 20)), noLeaf);
        refusals("14 hills", (x, a) -> x.hills(a[0]), new int[][] {edges(1, 99)},
            new Refusal("OUTSIDE: much (1 to 99)", OUTSIDE, (s, a) -> out(a[0], 1, 99)), noLeaf);
    }

    private static void ofWhatWouldBe() {
        refusals("15 close", (x, a) -> x.close(a[0], a[1]), new int[][] {CELLS, MUCH},
            new Refusal("UNKNOWN: cell (0 to 9; also without a LEAF)", UNKNOWN, (s, a) -> s.noCell(a[0])),
            new Refusal("OUTSIDE: much (0 to 99)", OUTSIDE, (s, a) -> out(a[1], 0, 99)));
        refusals("16 toSand", (x, a) -> x.toSand(a[0], a[1], a[2]), new int[][] {MINUTES, edges(0, 1023), edges(0, 1)},
            new Refusal("OUTSIDE: minute (0 to 20)", OUTSIDE, (s, a) -> out(a[0], 0, 20)),
            new Refusal("OUTSIDE: cells (bits, 0 to 1023)", OUTSIDE, (s, a) -> out(a[1], 0, 1023)),
            new Refusal("OUTSIDE: what (0 to 1)", OUTSIDE, (s, a) -> out(a[2], 0, 1)),
            new Refusal("STATE: no LEAF", STATE, (s, a) -> s.noLeaf()));
    }

    private static void ofWhatIsFound() {
        refusals("17 found", (x, a) -> x.found(a[0], a[1], a[2]), new int[][] {CELLS, MINUTES, MUCH},
            new Refusal("UNKNOWN: cell (0 to 9; also without a LEAF)", UNKNOWN, (s, a) -> s.noCell(a[0])),
            new Refusal("OUTSIDE: minute (0 to 20)", OUTSIDE, (s, a) -> out(a[1], 0, 20)),
            new Refusal("OUTSIDE: much (0 to 99)", OUTSIDE, (s, a) -> out(a[2], 0, 99)),
            new Refusal("FULL: 6 at most", FULL, (s, a) -> s.found == 6));
        refusals("18 forget", (x, a) -> x.forget(), new int[0][]);
        refusals("19 look", (x, a) -> x.look(a[0], a[1]), new int[][] {STROKES, MINUTES},
            new Refusal("UNKNOWN: stroke", UNKNOWN, (s, a) -> s.noStroke(a[0])),
            new Refusal("OUTSIDE: minute (0 to 20)", OUTSIDE, (s, a) -> out(a[1], 0, 20)));
        refusals("20 years", (x, a) -> x.years(a[0], a[1], a[2]),
            new int[][] {edges(1, 60), {Integer.MIN_VALUE, -1, 0, 1, Integer.MAX_VALUE}, edges(0, 2)},
            new Refusal("OUTSIDE: evenings (1 to 60)", OUTSIDE, (s, a) -> out(a[0], 1, 60)),
            new Refusal("OUTSIDE: seed (0 at least)", OUTSIDE, (s, a) -> a[1] < 0),
            new Refusal("OUTSIDE: what (0 to 2)", OUTSIDE, (s, a) -> out(a[2], 0, 2)),
            new Refusal("STATE: no LEAF", STATE, (s, a) -> s.noLeaf()));
    }

    private static void ofAll() {
        refusals("21 image", (x, a) -> x.image(), new int[0][],
            new Refusal("STATE: no LEAF", STATE, (s, a) -> s.noLeaf()));
        refusals("22 restore", (x, a) -> x.restore(), new int[0][],
            new Refusal("STATE: none was kept", STATE, (s, a) -> !s.image));
        refusals("23 count", (x, a) -> x.count(a[0]), new int[][] {edges(0, 7)},
            new Refusal("OUTSIDE: what (0 to 7)", OUTSIDE, (s, a) -> out(a[0], 0, 7)));
    }

    private static int[] edges(int least, int most) {
        return new int[] {Integer.MIN_VALUE, least - 1, least, most, most + 1, Integer.MAX_VALUE};
    }

    private static boolean out(int number, int least, int most) {
        return number < least || number > most;
    }

    private static void refusals(String promise, Call call, int[][] arguments, Refusal... refusals) {
        List<int[]> all = new ArrayList<>();
        allArguments(arguments, new int[arguments.length], 0, all);
        DUE.sentence(promise + ": not refused, where no refusal fits", () -> askAll(call, all, refusals, 0));
        for (int one = 0; one < refusals.length; one++) {
            int alone = 1 << one;
            DUE.sentence(promise + ": " + refusals[one].told, () -> askAll(call, all, refusals, alone));
        }
        if (refusals.length > 1) {
            DUE.sentence(promise + ": of several refusals the first", () -> askAll(call, all, refusals, SEVERAL));
        }
    }

    private static void allArguments(int[][] arguments, int[] chosen, int place, List<int[]> all) {
        if (place == arguments.length) {
            all.add(chosen.clone());
            return;
        }
        for (int number : arguments[place]) {
            chosen[place] = number;
            allArguments(arguments, chosen, place + 1, all);
        }
    }

    /** Calls, in each state, with all arguments for which just these refusals fit, as bits (or SEVERAL). */
    private static void askAll(Call call, List<int[]> all, Refusal[] refusals, int wanted) {
        STATES.forEach((name, state) -> {
            for (int[] a : all) {
                int fitting = fitting(state, a, refusals);
                boolean isAsked = wanted == SEVERAL ? Integer.bitCount(fitting) > 1 : fitting == wanted;
                if (isAsked) {
                    int first = Integer.numberOfTrailingZeros(fitting);
                    ask(name, state.made.get(), call, a, fitting == 0 ? NOT_REFUSED : refusals[first].answer);
                }
            }
        });
    }

    private static int fitting(State state, int[] a, Refusal[] refusals) {
        int bits = 0;
        for (int i = 0; i < refusals.length; i++) {
            bits |= refusals[i].fits.is(state, a) ? 1 << i : 0;
        }
        return bits;
    }

    private static void ask(String name, BlotLand x, Call call, int[] a, int refusal) {
        String told = name + ", with " + Arrays.toString(a);
        int answer = call.of(x, a);
        if (refusal == NOT_REFUSED) {
            DUE.is(told + " (" + answer + "): whether it is refused", answer <= UNKNOWN ? 1 : 0, 0);
        } else {
            DUE.is(told, answer, refusal);
            DUE.is(told + ": whether all is as it was", Snapshot.of(x).equals(AS_IT_WAS.get(name)) ? 1 : 0, 1);
        }
    }
}
