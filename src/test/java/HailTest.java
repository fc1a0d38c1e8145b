/** Promises 18 to 21: told, forgotten, what fits, the odds of hail. */
public final class HailTest {
    private static final int BAD = -1;
    private static final int FULL = -3;
    private static final int NONE = -9;
    private static final int[] OUTSIDE = {Integer.MIN_VALUE, -1000, -1, Integer.MAX_VALUE};
    private static final Due DUE = new Due();

    public static void main(String[] args) {
        telling();
        forgetting();
        fits();
        fitsOfTheWholeYear();
        fitsRefused();
        odds();
        oddsEdges();
        oddsRefused();
        DUE.end();
    }

    private static long[] fitting(SpringPawn x) {
        return new long[] {x.fits(0), x.fits(1), x.fits(2)};
    }

    private static long[] odds(SpringPawn x, int tenths, int v) {
        return new long[] {x.odds(tenths, v, 0), x.odds(tenths, v, 1)};
    }

    private static void telling() {
        SpringPawn x = Due.of("s9 1;c1 1 1;c2 2 2;");
        DUE.all("no such crop", BAD, x.tells(-1, 0), x.tells(2, 0));
        DUE.all("no such is", BAD, x.tells(0, -1), x.tells(0, 2));
        for (int n : OUTSIDE) {
            DUE.all("tells, " + n, BAD, x.tells(n, 0), x.tells(0, n), x.tells(n, n));
        }
        for (int i = 1; i <= 6; i++) {
            DUE.is("tells", x.tells(i % 2, 1 - i % 2), i);
        }
        DUE.all("six at most", FULL, x.tells(0, 0), x.tells(1, 1));
        DUE.all("BAD goes ahead of FULL", BAD, x.tells(2, 0), x.tells(0, 2));
        DUE.is("count(6)", x.count(6), 6);
    }

    private static void forgetting() {
        SpringPawn x = Due.of("s9 1;c1 2 1;");
        DUE.is("forget, nothing told", x.forget(), 0);
        x.tells(0, 1);
        x.tells(0, 0);
        DUE.is("what can't be", x.fits(0), 0);
        DUE.is("forget", x.forget(), 2);
        DUE.is("count(6)", x.count(6), 0);
        DUE.is("all fits again", x.fits(0), 45);
        DUE.is("forget again", x.forget(), 0);
        DUE.is("tells behind it", x.tells(0, 0), 1);
    }

    private static void fits() {
        SpringPawn x = Due.of("s4 5;s4 1;c4 5 1;c7 1 1;c8 1 1;");
        DUE.row("nothing told", fitting(x), 36, 1, 0);
        x.tells(0, 0);
        DUE.row("crop 0 did not", fitting(x), 26, 1, 0);
        x.tells(1, 1);
        DUE.row("crop 1 ripened", fitting(x), 4, 1, 0);
        x.tells(2, 1);
        DUE.row("crop 2 ripened", fitting(x), 0, NONE, NONE);
        x.forget();
        x.tells(0, 1);
        DUE.row("crop 0 ripened", fitting(x), 10, 401, 0);
        x.tells(1, 0);
        DUE.row("crop 1 did not", fitting(x), 6, 402, 0);
        SpringPawn y = Due.of("s3 1;s1 9;s4 1;c1 9 1;");
        y.tells(0, 0);
        DUE.row("the one day that it needs", fitting(y), 20, 4, 8);
        SpringPawn z = Due.of("s9 2;s2 1;c9 2 1;c3 1 1;");
        z.tells(0, 0);
        z.tells(1, 0);
        DUE.row("nine days at most", fitting(z), 3, 9, 508);
        SpringPawn w = Due.of("s9 2;s9 1;c9 2 1;c9 1 1;");
        w.tells(0, 1);
        DUE.row("from day 9 on", fitting(w), 45, 901, 0);
    }

    private static void fitsOfTheWholeYear() {
        SpringPawn x = Due.of("s3 1;s1 9;s4 1;c1 9 1;i0;l1;");
        x.pawns(2, 3);
        x.tells(0, 1);
        DUE.row("as if all else were IN", fitting(x), 16, 1, 0);
        x.year();
        DUE.row("lapsed days too", fitting(x), 16, 1, 0);
        SpringPawn y = Due.of("s9 1;s9 1;s9 1;s3 1;");
        DUE.row("30 days", fitting(y), 234, 1, 0);
        SpringPawn z = Due.of("s1 1;");
        DUE.row("one day", fitting(z), 1, 1, 1);
        DUE.row("none", fitting(new SpringPawn()), 0, NONE, NONE);
    }

    private static void fitsRefused() {
        SpringPawn x = Due.of("s1 1;");
        DUE.all("no such what", BAD, x.fits(-1), x.fits(3), new SpringPawn().fits(3));
        for (int n : OUTSIDE) {
            DUE.is("fits, " + n, x.fits(n), BAD);
        }
    }

    private static void odds() {
        SpringPawn x = Due.of("s9 5;c1 1 10;c2 2 20;c3 3 30;c1 9 90;");
        DUE.row("all that ripen", odds(x, 3, 60), 343, 1000);
        DUE.row("the least of them may be spoilt", odds(x, 3, 50), 49, 100);
        DUE.row("30, or 10 and 20", odds(x, 3, 30), 847, 1000);
        DUE.row("any", odds(x, 3, 1), 973, 1000);
        DUE.row("in least terms", odds(x, 5, 60), 1, 8);
        DUE.row("in least terms", odds(x, 2, 50), 16, 25);
        DUE.row("more than ripens", odds(x, 3, 61), 0, 1);
        x.pawns(0, 7);
        DUE.row("by what ripens now", odds(x, 3, 30), 49, 100);
    }

    private static void oddsEdges() {
        SpringPawn x = Due.of("s9 5;c1 1 10;c2 2 20;c1 1 0;c1 1 99;");
        DUE.row("v = 0", odds(x, 3, 0), 1, 1);
        DUE.row("v = 0 for sure spoilt", odds(x, 10, 0), 1, 1);
        DUE.row("x = 0", odds(x, 0, 129), 1, 1);
        DUE.row("x = 0, too much", odds(x, 0, 130), 0, 1);
        DUE.row("x = 10", odds(x, 10, 1), 0, 1);
        DUE.row("v = 999", odds(x, 1, 999), 0, 1);
        DUE.row("crops of no worth", odds(x, 1, 129), 729, 1000);
        DUE.row("nothing ripens, v = 0", odds(new SpringPawn(), 4, 0), 1, 1);
        DUE.row("nothing ripens, v = 1", odds(new SpringPawn(), 4, 1), 0, 1);
        SpringPawn y = Due.of("s9 5;c1 1 1;c1 1 1;c1 1 1;c1 1 1;");
        DUE.row("four in ten thousand", odds(y, 9, 4), 1, 10000);
        DUE.row("four in ten thousand", odds(y, 1, 4), 6561, 10000);
        DUE.row("three of four", odds(y, 9, 3), 37, 10000);
    }

    private static void oddsRefused() {
        SpringPawn x = Due.of("s9 5;c1 1 10;");
        DUE.all("no such x", BAD, x.odds(-1, 0, 0), x.odds(11, 0, 0));
        DUE.all("no such v", BAD, x.odds(0, -1, 0), x.odds(0, 1000, 0));
        DUE.all("no such what", BAD, x.odds(0, 0, -1), x.odds(0, 0, 2));
        for (int n : OUTSIDE) {
            DUE.all("odds, " + n, BAD, x.odds(n, 0, 0), x.odds(0, n, 0), x.odds(0, 0, n), x.odds(n, n, n));
        }
    }
}
