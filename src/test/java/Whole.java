import java.util.ArrayList;
import java.util.List;

/** All that can be seen of an object, so that two of them can be compared. */
final class Whole {
    private Whole() {
    }

    /** A valley where there is something of everything: OUT, LAPSED, owed, told, kept, undone, traced, typed. */
    static SpringPawn valley() {
        SpringPawn x = Due.of("s3 2;s3 5;s3 0;c2 2 10;c1 5 7;p3;i1;l2;");
        x.pawns(0, 1);
        x.year();
        x.keep(1);
        x.year();
        x.pawns(4, 1);
        x.pawns(8, 1);
        x.redeems(1);
        x.pawns(7, 2);
        x.tells(0, 1);
        x.tells(1, 0);
        x.mark(4, 0);
        Due.type(x, "s4 4;q");
        return x;
    }

    /** All that is seen without a change: some 150 calls for a valley of nine days. */
    private static List<Long> seen(SpringPawn x) {
        List<Long> all = new ArrayList<>();
        for (long n : Due.counts(x)) {
            all.add(n);
        }
        for (long n : Due.now(x)) {
            all.add(n);
        }
        for (int l = 0; l < 4; l++) {
            for (long n : Due.loan(x, l)) {
                all.add(n);
            }
        }
        for (int d = 0; d < x.count(0); d++) {
            for (long n : Due.day(x, d)) {
                all.add(n);
            }
        }
        for (int c = 0; c < x.count(2); c++) {
            for (long n : Due.crop(x, c)) {
                all.add(n);
            }
        }
        for (int what = 0; what < 3; what++) {
            all.add((long) x.fits(what));
        }
        all.add(x.trace());
        return all;
    }

    /** What is to be undone, and what the images and the text hold: seen only by using it up. */
    private static List<Long> hidden(SpringPawn x) {
        List<Long> all = new ArrayList<>();
        unwind(x, all);
        for (int image = 0; image < 2; image++) {
            all.add((long) x.back(image));
            unwind(x, all);
        }
        all.add((long) x.valley());
        all.add((long) x.clear());
        return all;
    }

    private static void unwind(SpringPawn x, List<Long> all) {
        int more = x.count(7);
        for (int i = 0; i <= more; i++) {
            for (int what = 0; what <= 3; what++) {
                all.add((long) x.now(what));
            }
            all.add((long) x.loan(0, 2));
            all.add((long) x.undo());
        }
    }

    /** Both objects are used up by it. */
    static void same(Due due, String what, SpringPawn x, SpringPawn y) {
        due.row(what + ": what is seen", longs(seen(x)), longs(seen(y)));
        due.row(what + ": what is hidden", longs(hidden(x)), longs(hidden(y)));
    }

    private static long[] longs(List<Long> all) {
        return all.stream().mapToLong(n -> n).toArray();
    }
}
