/** Promises 22 to 24 and 26: marks by kinds, images, the trace. */
public final class KindsTest {
    private static final int BAD = -1;
    private static final int STATE = -2;
    private static final int NO = -1000000;
    private static final int[] OUTSIDE = {Integer.MIN_VALUE, -1000, -1, Integer.MAX_VALUE};
    private static final Due DUE = new Due();

    public static void main(String[] args) {
        marks();
        marksBelowZero();
        marksRefused();
        traces();
        images();
        imagesKeepWhatMayBeUndone();
        imagesKeepNothingElse();
        imagesRefused();
        DUE.end();
    }

    private static long[] marks(SpringPawn x, int c) {
        long[] all = new long[6];
        for (int kind = 0; kind < all.length; kind++) {
            all[kind] = x.mark(kind, c);
        }
        return all;
    }

    private static void marks() {
        SpringPawn x = Due.of("s9 5;c3 4 20;c1 9 70;");
        DUE.row("a crop that ripens", marks(x, 0), 20, 23, 16, 46, 25, 20);
        DUE.row("a crop that does not", marks(x, 1), 70, 71, 61, 142, 61, 70);
        x.year();
        x.year();
        DUE.row("two years on", marks(x, 0), 20, 23, 16, 46, 25, 22);
        x.pawns(0, 7);
        DUE.row("it does not ripen any more", marks(x, 0), 20, 23, 16, 46, 16, 22);
    }

    private static void marksBelowZero() {
        SpringPawn x = Due.of("c3 9 0;");
        DUE.row("a crop of no worth", marks(x, 0), 0, 3, -9, 6, -9, 0);
    }

    private static void marksRefused() {
        SpringPawn x = Due.of("s9 5;c3 4 20;");
        DUE.all("no such kind", NO, x.mark(-1, 0), x.mark(6, 0));
        DUE.all("no such crop", NO, x.mark(0, -1), x.mark(0, 1), x.mark(5, 1));
        for (int n : OUTSIDE) {
            DUE.all("mark, " + n, NO, x.mark(n, 0), x.mark(0, n), x.mark(n, n));
        }
        DUE.is("nothing comes to the trace", x.trace(), 0);
    }

    private static void traces() {
        SpringPawn x = Due.of("s9 5;c3 4 20;");
        long[] come = {1, 11, 101, 1011, 10101, 100001};
        long sum = 0;
        for (int times = 0; times < 3; times++) {
            for (int kind = 0; kind < come.length; kind++) {
                x.mark(kind, 0);
                sum += come[kind];
                DUE.is("trace behind mark of kind " + kind, x.trace(), sum);
            }
        }
        x.crop(0, 3);
        x.year();
        x.undo();
        x.keep(0);
        x.mark(0, 0);
        x.back(0);
        DUE.is("only mark comes to it", x.trace(), sum + 1);
        Due.read(x, "s1 1;");
        DUE.is("it stays", x.trace(), sum + 1);
    }

    private static void images() {
        SpringPawn x = Due.of("s9 2;c4 1 10;i1;l2;");
        x.pawns(0, 1);
        x.year();
        x.year();
        x.pawns(5, 1);
        x.year();
        DUE.is("keep(0)", x.keep(0), 38);
        long[] then = Due.now(x);
        long[] loan = Due.loan(x, 0);
        DUE.row("what is kept", then, 38, 3, 96, 7, 10, 3, 4);
        x.year();
        x.pawns(4, 1);
        DUE.is("keep(1)", x.keep(1), 52);
        x.year();
        DUE.is("back(0)", x.back(0), 38);
        DUE.row("as it was", Due.now(x), then);
        DUE.row("the loan as it was", Due.loan(x, 0), loan);
        x.redeems(0);
        x.year();
        DUE.is("back(0) again", x.back(0), 38);
        DUE.row("the image is not worn", Due.now(x), then);
        DUE.is("back(1)", x.back(1), 52);
        DUE.row("the other one", Due.now(x), 52, 4, 16, 231, 0, 4, 4);
        DUE.is("kept over", x.keep(0), 52);
        x.year();
        DUE.is("the newer one", x.back(0), 52);
    }

    private static void imagesKeepWhatMayBeUndone() {
        SpringPawn x = Due.of("s9 2;c4 1 10;i1;");
        x.year();
        x.pawns(3, 2);
        x.year();
        x.keep(1);
        for (int i = 0; i < 12; i++) {
            x.year();
        }
        DUE.is("count(7)", x.count(7), 10);
        x.back(1);
        DUE.is("count(7) as kept", x.count(7), 3);
        DUE.is("undo", x.undo(), 2);
        DUE.row("a year less", Due.now(x), 18, 1, 24, 0, 10, 2, 8);
        DUE.is("undo", x.undo(), 1);
        DUE.row("not pawned", Due.now(x), 10, 1, 0, 0, 10, 0, 0);
        DUE.is("undo", x.undo(), 0);
        DUE.is("no more", x.undo(), STATE);
        x.back(1);
        DUE.is("the image has them still", x.undo(), 2);
        DUE.is("years", x.now(1), 1);
        for (int i = 0; i < 12; i++) {
            x.year();
        }
        x.keep(0);
        for (int i = 0; i < 12; i++) {
            x.year();
        }
        x.back(0);
        for (int i = 9; i >= 0; i--) {
            DUE.is("undo of ten that were kept", x.undo(), i);
            DUE.is("its years", x.now(1), 3 + i);
        }
        SpringPawn y = Due.of("s9 2;");
        y.keep(0);
        y.year();
        y.back(0);
        DUE.is("back is not to be undone", y.undo(), STATE);
    }

    private static void imagesKeepNothingElse() {
        SpringPawn x = Due.of("s9 2;c4 1 10;");
        x.keep(0);
        x.tells(0, 1);
        x.mark(0, 0);
        x.type('s');
        x.keep(1);
        x.back(0);
        DUE.row("TOLD, THE TEXT, THE TRACE", new long[] {x.count(6), x.count(8), x.trace()}, 1, 1, 1);
        DUE.is("the other image", x.back(1), 0);
    }

    private static void imagesRefused() {
        SpringPawn x = Due.of("s9 2;");
        DUE.all("no such image", BAD, x.keep(-1), x.keep(2), x.back(-1), x.back(2));
        for (int n : OUTSIDE) {
            DUE.all("image " + n, BAD, x.keep(n), x.back(n));
        }
        DUE.all("none was kept", STATE, x.back(0), x.back(1));
        x.keep(1);
        DUE.is("none was kept", x.back(0), STATE);
        DUE.is("one was", x.back(1), 0);
    }
}
