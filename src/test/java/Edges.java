import java.util.function.IntToLongFunction;
import java.util.function.IntUnaryOperator;

/** What the tests of the document's single sentences share. */
abstract class Edges {
    static final int BAD = -1;
    static final int STATE = -2;
    static final int FULL = -3;
    static final int NONE = -9;
    static final int NO = -1000000;
    private static final int[] FAR = {Integer.MIN_VALUE, Integer.MIN_VALUE + 1, -65536, -1000, 1 << 16, 1 << 30,
        Integer.MAX_VALUE - 1, Integer.MAX_VALUE};

    final Due due;

    Edges(Due due) {
        this.due = due;
    }

    abstract void run();

    /** Every call is refused just for the numbers outside of least .. most. */
    final void range(String call, int least, int most, long refusal, IntToLongFunction calls) {
        for (int n : new int[] {least, Math.min(least + 1, most), Math.max(most - 1, least), most}) {
            due.is(call + " of " + n + ", refused", calls.applyAsLong(n) == refusal ? 1 : 0, 0);
        }
        none(call, least - 1, refusal, calls);
        none(call, most + 1, refusal, calls);
        far(call, refusal, calls);
    }

    final void none(String call, int n, long refusal, IntToLongFunction calls) {
        due.is(call + " of " + n, calls.applyAsLong(n), refusal);
    }

    final void far(String call, long refusal, IntToLongFunction calls) {
        for (int n : FAR) {
            none(call, n, refusal, calls);
        }
    }

    final void faultAt(String text, int place) {
        SpringPawn x = new SpringPawn();
        due.is("valley of \"" + text + "\"", Due.read(x, text), -10 - place);
    }

    final SpringPawn accepted(String text, int items) {
        SpringPawn x = new SpringPawn();
        due.is("valley of \"" + text + "\"", Due.read(x, text), items);
        return x;
    }

    /** A row of answers to the same call for 0, 1 and so on. */
    static long[] row(int many, IntUnaryOperator calls) {
        long[] all = new long[many];
        for (int i = 0; i < many; i++) {
            all[i] = calls.applyAsInt(i);
        }
        return all;
    }

    static void years(SpringPawn x, int many) {
        for (int i = 0; i < many; i++) {
            x.year();
        }
    }

    static int bits(int first, int many) {
        return ((1 << many) - 1) << first;
    }
}
