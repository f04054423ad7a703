import java.util.function.LongSupplier;

/** Compares answers with those that are due, prints the others, and ends the test. */
final class Due {
    private int asked = 0;
    private int wrong = 0;
    private String sentence = "";

    void is(String call, long got, long want) {
        asked++;
        if (got != want) {
            wrong++;
            System.out.println(sentence + call + " answered " + got + ", due is " + want);
        }
    }

    /** A test of its own for one sentence of the document, which is told with all that is not as due there. */
    void sentence(String told, Runnable test) {
        int before = asked;
        sentence = "[" + told + "] ";
        test.run();
        is("answers asked for: 1 at least", Math.min(1, asked - before), 1);
        sentence = "";
    }

    /** The call is refused as told, and all that can be told of the object stays as it was. */
    void refused(BlotLand x, String call, LongSupplier answer, long want) {
        long before = x.digest();
        is(call, answer.getAsLong(), want);
        is(call + " changes nothing, digest()", x.digest(), before);
    }

    void inkIs(BlotLand x, String when, int... row) {
        for (int cell = 0; cell < row.length; cell++) {
            is(when + ": ink(" + cell + ")", x.ink(cell), row[cell]);
        }
    }

    void comesIs(BlotLand x, int minute, int... row) {
        for (int cell = 0; cell < row.length; cell++) {
            is("comes(" + cell + ", " + minute + ")", x.comes(cell, minute), row[cell]);
        }
    }

    void comesOfIs(String leaf, int minute, int... row) {
        BlotLand x = leaf(leaf);
        for (int cell = 0; cell < row.length; cell++) {
            is(leaf + ": comes(" + cell + ", " + minute + ")", x.comes(cell, minute), row[cell]);
        }
    }

    static void type(BlotLand x, String text) {
        for (int i = 0; i < text.length(); i++) {
            x.letter(text.charAt(i));
        }
    }

    static void evenings(BlotLand x, int many, int minute) {
        for (int i = 0; i < many; i++) {
            x.evening(minute);
        }
    }

    static BlotLand page(String text) {
        BlotLand x = new BlotLand();
        type(x, text);
        return x;
    }

    static BlotLand leaf(String text) {
        BlotLand x = page(text);
        x.leaf();
        return x;
    }

    void end(String test) {
        System.out.println(test + ": " + asked + " answers, " + wrong + " not as due");
        if (asked == 0 || wrong != 0) {
            System.exit(1);
        }
    }
}
