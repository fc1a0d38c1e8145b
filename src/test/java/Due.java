/** What every test of the project uses: answers against those that are due, and texts typed in. */
final class Due {
    private final Doc doc;
    /** The sentence that the answers hold, ahead of what is told of a wrong one. */
    private String held = "";
    private int calls = 0;
    private int wrong = 0;

    Due() {
        this(null);
    }

    Due(Doc doc) {
        this.doc = doc;
    }

    void is(String call, long got, long want) {
        calls++;
        if (got != want) {
            wrong++;
            System.out.println(held + call + " answered " + got + ", due is " + want);
        }
    }

    /** The answers that follow hold this sentence, which the document must have. */
    void sentence(String section, String words) {
        held = words.isEmpty() ? "" : section + ", \"" + words + "\": ";
        if (doc != null && !words.isEmpty()) {
            is("whether the document has it", doc.quote(section, words) ? 1 : 0, 1);
        }
    }

    /** The same answer from every call of a row. */
    void all(String calls, long want, long... got) {
        for (int i = 0; i < got.length; i++) {
            is(calls + " [" + i + "]", got[i], want);
        }
    }

    /** A row of answers, one by one. */
    void row(String calls, long[] got, long... want) {
        is(calls + ", how many", got.length, want.length);
        for (int i = 0; i < got.length && i < want.length; i++) {
            is(calls + " [" + i + "]", got[i], want[i]);
        }
    }

    void end() {
        System.out.println(calls + " answers, " + wrong + " not as due");
        if (wrong != 0) {
            System.exit(1);
        }
    }

    static void type(SpringPawn x, String text) {
        for (int i = 0; i < text.length(); i++) {
            x.type(text.charAt(i));
        }
    }

    static int read(SpringPawn x, String text) {
        type(x, text);
        return x.valley();
    }

    static SpringPawn of(String text) {
        SpringPawn x = new SpringPawn();
        if (read(x, text) < 0) {
            throw new IllegalArgumentException(text);
        }
        return x;
    }

    static long[] now(SpringPawn x) {
        long[] all = new long[7];
        for (int i = 0; i < all.length; i++) {
            all[i] = x.now(i);
        }
        return all;
    }

    static long[] counts(SpringPawn x) {
        long[] all = new long[9];
        for (int i = 0; i < all.length; i++) {
            all[i] = x.count(i);
        }
        return all;
    }

    static long[] loan(SpringPawn x, int l) {
        return new long[] {x.loan(l, 0), x.loan(l, 1), x.loan(l, 2)};
    }

    static long[] day(SpringPawn x, int d) {
        return new long[] {x.day(d, 0), x.day(d, 1), x.day(d, 2), x.day(d, 3)};
    }

    static long[] crop(SpringPawn x, int c) {
        return new long[] {x.crop(c, 0), x.crop(c, 1), x.crop(c, 2), x.crop(c, 3), x.crop(c, 4)};
    }
}
