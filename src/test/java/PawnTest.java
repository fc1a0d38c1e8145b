/** Promises 13 to 17: what is lent, the cheapest row, what to redeem, rich, bare. */
public final class PawnTest {
    private static final int BAD = -1;
    private static final int NONE = -9;
    private static final int[] OUTSIDE = {Integer.MIN_VALUE, -1000, -1, Integer.MAX_VALUE};
    private static final Due DUE = new Due();

    public static void main(String[] args) {
        lends();
        cheap();
        cheapTies();
        cheapNeedsNoLoan();
        cheapRefused();
        freeing();
        freeingTies();
        freeingRefused();
        rich();
        richEdges();
        bare();
        nothingIsChanged();
        DUE.end();
    }

    private static long[] cheapest(SpringPawn x, int v) {
        return new long[] {x.cheap(v, 0), x.cheap(v, 1), x.cheap(v, 2)};
    }

    private static long[] freed(SpringPawn x) {
        return new long[] {x.freeing(0), x.freeing(1)};
    }

    private static void lends() {
        SpringPawn x = Due.of("s3 2;s3 5;p4;");
        DUE.is("lends(0, 1)", x.lends(0, 1), 8);
        DUE.is("lends(2, 2)", x.lends(2, 2), 28);
        DUE.is("0 for those behind the last", x.lends(5, 9), 20);
        DUE.is("0 for those behind the last", x.lends(0, 9), 84);
        x.pawns(2, 2);
        DUE.is("days that are OUT are there", x.lends(2, 2), 28);
        DUE.is("the most", Due.of("s9 9;p9;").lends(0, 9), 729);
        DUE.is("behind day 29", Due.of("s9 9;s9 9;s9 9;s3 9;p1;").lends(28, 9), 18);
        SpringPawn y = Due.of("s9 9;");
        Due.read(y, "s9 9;");
        Due.read(y, "s1 1;");
        DUE.is("no gifts of older texts", y.lends(0, 9), 2);
        DUE.all("no such day", BAD, x.lends(-1, 1), x.lends(6, 1), x.lends(30, 1));
        DUE.all("no such n", BAD, x.lends(0, 0), x.lends(0, 10), x.lends(0, -1));
        for (int n : OUTSIDE) {
            DUE.all("lends, " + n, BAD, x.lends(n, 1), x.lends(0, n), x.lends(n, n));
        }
    }

    private static void cheap() {
        SpringPawn x = Due.of("s3 4;s3 6;s3 1;c3 4 20;c2 6 30;c8 1 9;p1;");
        DUE.row("one of the first", cheapest(x, 1), 0, 1, 59);
        DUE.row("one of the best", cheapest(x, 6), 3, 1, 59);
        DUE.row("two days for one crop", cheapest(x, 7), 0, 2, 50);
        DUE.row("four days do less harm than three", cheapest(x, 18), 0, 4, 30);
        DUE.row("all of it", cheapest(x, 33), 0, 9, 0);
        DUE.row("more than there is", cheapest(x, 34), NONE, NONE, NONE);
        x.pawns(1, 1);
        DUE.row("only days that are IN", cheapest(x, 14), 4, 4, 20);
    }

    private static void cheapTies() {
        SpringPawn x = Due.of("s5 2;c1 1 5;p1;");
        DUE.row("of several the shortest, the first", cheapest(x, 1), 0, 1, 5);
        DUE.row("of several the shortest, the first", cheapest(x, 3), 0, 2, 5);
        x.pawns(1, 1);
        DUE.row("behind what is OUT", cheapest(x, 3), 2, 2, 5);
        SpringPawn y = Due.of("s2 1;s1 9;s9 1;c1 9 50;p3;");
        DUE.row("a longer row that does less harm", cheapest(y, 9), 3, 3, 50);
        DUE.row("a shorter one if all do harm", cheapest(y, 28), 1, 2, 0);
    }

    private static void cheapNeedsNoLoan() {
        SpringPawn x = Due.of("s9 2;c1 1 5;i0;");
        for (int d = 0; d < 4; d++) {
            x.pawns(d, 1);
        }
        DUE.is("no loan is free", x.pawns(4, 1), -2);
        DUE.row("cheap all the same", cheapest(x, 1), 4, 1, 5);
    }

    private static void cheapRefused() {
        SpringPawn x = Due.of("s9 2;");
        DUE.all("no such v", BAD, x.cheap(0, 0), x.cheap(-1, 0), x.cheap(1000, 0));
        DUE.all("no such what", BAD, x.cheap(1, -1), x.cheap(1, 3), x.cheap(999, 3));
        DUE.is("the greatest v", x.cheap(999, 0), NONE);
        for (int n : OUTSIDE) {
            DUE.all("cheap, " + n, BAD, x.cheap(n, 0), x.cheap(1, n), x.cheap(n, n));
        }
    }

    private static void freeing() {
        SpringPawn x = Due.of("s5 2;s5 8;c4 2 10;c5 8 40;p1;i0;");
        DUE.row("nothing to free", freed(x), 0, 50);
        x.pawns(0, 5);
        DUE.row("nothing is better", freed(x), 0, 50);
        x.pawns(6, 1);
        DUE.row("loan 1", freed(x), 2, 50);
        x.pawns(7, 1);
        DUE.row("loans 1 and 2", freed(x), 6, 50);
        x.pawns(8, 1);
        DUE.row("loans 1, 2 and 3", freed(x), 14, 50);
        x.redeems(0);
        x.year();
        DUE.row("a year on", freed(x), 14, 50);
        SpringPawn y = Due.of("s5 2;c5 2 10;i0;");
        y.pawns(2, 1);
        DUE.row("loan 0", freed(y), 1, 10);
        SpringPawn z = Due.of("s2 2;s1 1;s2 2;c4 2 10;i0;");
        z.pawns(2, 1);
        DUE.row("none if it does harm", freed(z), 0, 10);
    }

    private static void freeingTies() {
        SpringPawn x = Due.of("s4 3;c3 1 10;p1;i0;");
        x.pawns(0, 2);
        x.pawns(2, 1);
        x.pawns(3, 1);
        DUE.row("two of equal cost: the least bits", freed(x), 3, 10);
        SpringPawn y = Due.of("s4 3;c1 1 10;p1;i0;");
        y.pawns(0, 2);
        y.pawns(2, 1);
        y.pawns(3, 1);
        DUE.row("the one that costs least, then the least bits", freed(y), 2, 10);
        SpringPawn z = Due.of("s2 0;s1 1;c1 0 5;c3 0 7;i0;");
        z.pawns(0, 1);
        z.pawns(1, 1);
        z.pawns(2, 1);
        DUE.row("loans that cost nothing", freed(z), 7, 12);
        SpringPawn w = Due.of("s2 0;s1 1;c1 0 5;i0;");
        w.pawns(0, 1);
        w.pawns(1, 1);
        DUE.row("none if it brings nothing", freed(w), 0, 5);
    }

    private static void freeingRefused() {
        SpringPawn x = new SpringPawn();
        DUE.row("a new object", freed(x), 0, 0);
        DUE.all("no such what", BAD, x.freeing(-1), x.freeing(2));
        for (int n : OUTSIDE) {
            DUE.is("freeing, " + n, x.freeing(n), BAD);
        }
    }

    private static void rich() {
        SpringPawn x = Due.of("s9 1;c6 1 10;c1 0 1;p1;i1;l3;");
        DUE.is("rich(0)", x.rich(0), 0);
        DUE.is("rich(1)", x.rich(1), 1);
        DUE.is("rich(11)", x.rich(11), 1);
        DUE.is("rich(12)", x.rich(12), 2);
        DUE.is("rich(660)", x.rich(660), 60);
        DUE.is("rich(661)", x.rich(661), NONE);
        x.pawns(0, 2);
        DUE.is("with the purse", x.rich(2), 0);
        DUE.is("interest takes days", x.rich(24), 2);
        DUE.is("less comes then", x.rich(25), 3);
        DUE.is("less comes then", x.rich(26), 4);
        DUE.is("not in 60", x.rich(82), 60);
        DUE.is("not in 60", x.rich(83), NONE);
    }

    private static void richEdges() {
        SpringPawn x = Due.of("s1 1;c1 1 99;c1 1 99;");
        DUE.is("the greatest v", x.rich(9999), 51);
        DUE.all("no such v", BAD, x.rich(-1), x.rich(10000));
        for (int n : OUTSIDE) {
            DUE.is("rich, " + n, x.rich(n), BAD);
        }
        DUE.is("a new object", new SpringPawn().rich(1), NONE);
    }

    private static void bare() {
        DUE.is("no crops", new SpringPawn().bare(), 0);
        DUE.is("no crops but days", Due.of("s9 9;").bare(), 0);
        SpringPawn x = Due.of("s9 1;s3 1;c6 1 10;i2;");
        DUE.is("nothing pawned", x.bare(), NONE);
        x.pawns(0, 3);
        DUE.is("two years", x.bare(), 2);
        x.year();
        DUE.is("one year", x.bare(), 1);
        x.year();
        DUE.is("now", x.bare(), 0);
        SpringPawn y = Due.of("s9 1;c1 1 0;i5;");
        DUE.is("a crop of no worth ripens too", y.bare(), NONE);
        y.pawns(0, 1);
        DUE.is("till the days are out", y.bare(), 2);
        SpringPawn z = Due.of("s9 1;c1 1 1;i5;l1;");
        z.pawns(0, 9);
        DUE.is("at once", z.bare(), 0);
    }

    private static void nothingIsChanged() {
        SpringPawn x = Due.of("s9 1;s3 4;c6 1 10;c2 4 7;i2;l3;");
        x.pawns(0, 3);
        x.year();
        long[] now = Due.now(x);
        long[] counts = Due.counts(x);
        long[] loan = Due.loan(x, 0);
        x.lends(0, 9);
        x.cheap(3, 0);
        x.freeing(0);
        x.rich(9999);
        x.bare();
        x.fits(0);
        x.odds(3, 10, 0);
        DUE.row("now", Due.now(x), now);
        DUE.row("count", Due.counts(x), counts);
        DUE.row("loan", Due.loan(x, 0), loan);
    }
}
