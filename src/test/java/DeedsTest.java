/** Promises 8 to 12: pawned, redeemed, years, undone, now. */
public final class DeedsTest {
    private static final int BAD = -1;
    private static final int STATE = -2;
    private static final int NONE = -9;
    private static final int[] OUTSIDE = {Integer.MIN_VALUE, -1000, -1, Integer.MAX_VALUE};
    private static final Due DUE = new Due();

    public static void main(String[] args) {
        pawning();
        pawningRefused();
        pawningUpToTheLastDay();
        redeeming();
        redeemingRefused();
        interest();
        interestByNumbers();
        lapsing();
        aHarvestComesFirst();
        yearsEnd();
        undoing();
        tenAreKnown();
        now();
        gaps();
        DUE.end();
    }

    private static void pawning() {
        SpringPawn x = Due.of("s3 2;s3 5;p4;");
        DUE.is("pawns(2, 2)", x.pawns(2, 2), 28);
        DUE.is("pawns(0, 1)", x.pawns(0, 1), 8);
        DUE.row("now", Due.now(x), 36, 0, 13, 0, 0, 2, 36);
        x.redeems(0);
        DUE.is("the lowest loan that is free", x.pawns(5, 1), 20);
        DUE.row("loan 0", Due.loan(x, 0), 32, 20, 0);
        SpringPawn y = Due.of("s9 0;s9 9;p9;");
        DUE.is("nothing for days without gifts", y.pawns(0, 9), 0);
        DUE.row("it is a loan all the same", Due.loan(y, 0), 511, 0, 0);
        DUE.is("the most", y.pawns(9, 9), 729);
    }

    private static void pawningRefused() {
        SpringPawn x = Due.of("s9 2;s3 5;");
        DUE.all("no such day", BAD, x.pawns(-1, 1), x.pawns(12, 1), x.pawns(30, 1));
        DUE.all("no such n", BAD, x.pawns(0, 0), x.pawns(0, -1), x.pawns(0, 10));
        DUE.all("days behind the last are not IN", STATE, x.pawns(11, 2), x.pawns(4, 9), x.pawns(11, 9));
        for (int n : OUTSIDE) {
            DUE.all("pawns, " + n, BAD, x.pawns(n, 1), x.pawns(0, n), x.pawns(n, n));
        }
        DUE.is("nothing to be undone", x.count(7), 0);
        DUE.is("pawns(3, 9)", x.pawns(3, 9), 54);
        DUE.all("not all IN", STATE, x.pawns(3, 1), x.pawns(2, 2), x.pawns(0, 9), x.pawns(11, 1));
        DUE.is("OUT, and days behind the last", x.pawns(11, 2), STATE);
        DUE.all("BAD goes ahead of STATE", BAD, x.pawns(12, 2), x.pawns(11, 10), x.pawns(11, 0));
        x.pawns(0, 1);
        x.pawns(1, 1);
        x.redeems(0);
        x.pawns(11, 1);
        x.pawns(10, 1);
        DUE.all("no loan is free", STATE, x.pawns(2, 1), x.pawns(5, 2));
        DUE.all("no loan is free, days behind the last", STATE, x.pawns(9, 4), x.pawns(11, 2));
        DUE.is("BAD goes ahead of STATE, no loan free", x.pawns(12, 1), BAD);
        DUE.row("now", Due.now(x), 28, 0, 3075, 0, 0, 2, 28);
    }

    /** Every row from every day of the shortest and of the longest year: pawned just up to the last day. */
    private static void pawningUpToTheLastDay() {
        pawnEveryRow("s1 1;p1;", 1);
        pawnEveryRow("s5 1;p1;", 5);
        pawnEveryRow("s9 1;s9 1;s9 1;s3 1;p1;", 30);
        SpringPawn none = Due.of("c1 0 1;");
        DUE.all("a year without days has no such day", BAD, none.pawns(0, 1), none.pawns(0, 9));
    }

    private static void pawnEveryRow(String text, int days) {
        for (int d = 0; d < days; d++) {
            // An object for each day: one for all would be used for more than 512 calls.
            SpringPawn x = Due.of(text);
            for (int n = 1; n <= 9; n++) {
                boolean there = d + n <= days;
                String call = days + " days, pawns(" + d + ", " + n + ")";
                DUE.is(call, x.pawns(d, n), there ? n : STATE);
                DUE.is(call + ": the purse", x.now(0), there ? n : 0);
                DUE.is(call + ": undone", x.undo(), there ? 0 : STATE);
            }
            DUE.all(days + " days, no such n, day " + d, BAD, x.pawns(d, 0), x.pawns(d, 10));
            DUE.all(days + " days, no such day", BAD, x.pawns(days, 1), x.pawns(days, 9));
        }
    }

    private static void redeeming() {
        SpringPawn x = Due.of("s9 2;s9 5;i3;c1 0 10;");
        x.pawns(2, 2);
        x.pawns(7, 3);
        x.year();
        DUE.is("redeems(0)", x.redeems(0), 28);
        DUE.row("its interest is IN too", Due.now(x), 28, 1, 8064, 0, 10, 6, 18);
        DUE.row("it is free", Due.loan(x, 0), NONE, NONE, NONE);
        DUE.is("redeems(1)", x.redeems(1), 10);
        DUE.row("all are IN", Due.now(x), 10, 1, 0, 0, 10, 0, 0);
        DUE.is("pawned again", x.pawns(2, 2), 8);
        DUE.row("its age is 0 again", Due.loan(x, 0), 12, 8, 0);
    }

    /** No run has a purse too small for a loan: whatever was lent is in it until it is paid back. */
    private static void redeemingRefused() {
        SpringPawn x = Due.of("s4 9;l1;i0;");
        DUE.all("no such loan", BAD, x.redeems(-1), x.redeems(4));
        for (int n : OUTSIDE) {
            DUE.is("redeems, " + n, x.redeems(n), BAD);
        }
        DUE.all("all are free", STATE, x.redeems(0), x.redeems(1), x.redeems(2), x.redeems(3));
        DUE.is("refused: nothing to be undone", x.count(7), 0);
        x.pawns(0, 1);
        x.year();
        DUE.is("it lapsed", x.redeems(0), STATE);
        SpringPawn y = Due.of("s2 0;");
        y.pawns(0, 2);
        DUE.is("nothing was lent, the purse is empty", y.redeems(0), 0);
    }

    private static void interest() {
        SpringPawn x = Due.of("s9 1;s9 1;i3;");
        x.pawns(4, 2);
        x.pawns(7, 1);
        x.year();
        DUE.row("over what is OUT", Due.loan(x, 0), 48 | 64 | 256 | 512, 4, 1);
        DUE.row("behind that of loan 0", Due.loan(x, 1), 128 | 1024 | 2048 | 4096, 2, 1);
        x.year();
        DUE.row("behind the last of its days", Due.loan(x, 0), 48 | 64 | 256 | 512 | 8192 | 16384 | 32768, 4, 2);
        DUE.row("as many as there are", Due.loan(x, 1), 128 | 1024 | 2048 | 4096 | 65536 | 131072, 2, 2);
        x.year();
        DUE.row("it does not go on from day 0", Due.loan(x, 0), 48 | 64 | 256 | 512 | 8192 | 16384 | 32768, 4, 3);
        DUE.is("days ahead of it stay IN", x.now(2), 262144 - 16);
        SpringPawn y = Due.of("s9 1;i0;");
        y.pawns(0, 1);
        y.year();
        DUE.row("no interest", Due.loan(y, 0), 1, 2, 1);
        SpringPawn z = Due.of("s9 1;i5;");
        z.pawns(0, 1);
        z.year();
        DUE.row("the most interest", Due.loan(z, 0), 63, 2, 1);
    }

    private static void interestByNumbers() {
        SpringPawn x = Due.of("s9 1;i2;");
        x.pawns(3, 1);
        x.pawns(0, 1);
        x.year();
        DUE.row("loan 0 takes first", Due.loan(x, 0), 8 | 16 | 32, 2, 1);
        DUE.row("loan 1 takes then", Due.loan(x, 1), 1 | 2 | 4, 2, 1);
        x.year();
        DUE.row("loan 0 takes first again", Due.loan(x, 0), 8 | 16 | 32 | 64 | 128, 2, 2);
        DUE.row("one is left for loan 1", Due.loan(x, 1), 1 | 2 | 4 | 256, 2, 2);
    }

    private static void lapsing() {
        SpringPawn x = Due.of("s9 1;i1;l2;c1 0 3;");
        x.pawns(2, 1);
        x.year();
        x.pawns(6, 1);
        x.year();
        DUE.row("lapsed with its last interest", Due.now(x), 10, 2, 192, 28, 3, 3, 2);
        DUE.row("it is free", Due.loan(x, 0), NONE, NONE, NONE);
        DUE.row("the other goes on", Due.loan(x, 1), 192, 2, 1);
        DUE.is("lapsed days can't be pawned", x.pawns(2, 1), STATE);
        DUE.is("the free loan is used again", x.pawns(0, 1), 2);
        DUE.row("its age is 0", Due.loan(x, 0), 1, 2, 0);
        SpringPawn y = Due.of("s9 1;l9;i0;");
        y.pawns(0, 1);
        for (int i = 1; i <= 8; i++) {
            y.year();
        }
        DUE.row("eight years of nine", Due.loan(y, 0), 1, 2, 8);
        y.year();
        DUE.is("nine years", y.now(3), 1);
    }

    private static void aHarvestComesFirst() {
        SpringPawn x = Due.of("s5 1;c4 1 50;i3;");
        x.pawns(0, 1);
        DUE.is("HARVEST, then interest", x.year(), 50);
        DUE.row("now", Due.now(x), 52, 1, 15, 0, 0, 4, 2);
        DUE.is("the year behind it", x.year(), 0);
    }

    private static void yearsEnd() {
        SpringPawn x = Due.of("s1 1;c1 1 2;");
        for (int i = 1; i <= 99; i++) {
            DUE.is("year " + i, x.year(), 2);
        }
        DUE.is("the hundredth", x.year(), STATE);
        DUE.row("now", Due.now(x), 198, 99, 0, 0, 2, 0, 0);
        DUE.is("refused: as many to be undone", x.count(7), 10);
        DUE.is("undo", x.undo(), 9);
        DUE.is("a year again", x.year(), 2);
        DUE.is("RICH goes on behind year 99", x.rich(318), 60);
        DUE.is("RICH not in 61", x.rich(319), NONE);
    }

    private static void undoing() {
        SpringPawn x = Due.of("s9 1;i1;l2;c1 0 3;");
        DUE.is("nothing to be undone", x.undo(), STATE);
        x.pawns(2, 1);
        x.year();
        x.redeems(0);
        x.pawns(4, 2);
        x.year();
        x.year();
        x.tells(0, 1);
        x.mark(0, 0);
        Due.type(x, "s");
        DUE.row("now", Due.now(x), 13, 3, 0, 240, 3, 4, 0);
        DUE.is("a year undone", x.undo(), 5);
        DUE.row("not lapsed", Due.now(x), 10, 2, 112, 0, 3, 3, 4);
        DUE.row("the loan is there", Due.loan(x, 0), 112, 4, 1);
        DUE.is("another", x.undo(), 4);
        DUE.is("pawned, undone", x.undo(), 3);
        DUE.row("as ahead of it", Due.now(x), 3, 1, 0, 0, 3, 0, 0);
        DUE.is("redeemed, undone", x.undo(), 2);
        DUE.row("the loan is there again", Due.loan(x, 0), 12, 2, 1);
        DUE.is("a year undone", x.undo(), 1);
        DUE.is("pawned, undone", x.undo(), 0);
        DUE.row("as at first", Due.now(x), 0, 0, 0, 0, 3, 0, 0);
        DUE.is("nothing any more", x.undo(), STATE);
        DUE.row("TOLD, THE TEXT, THE TRACE stay", new long[] {x.count(6), x.count(8), x.trace()}, 1, 1, 1);
    }

    private static void tenAreKnown() {
        SpringPawn x = Due.of("s1 1;c1 1 1;");
        for (int i = 0; i < 13; i++) {
            x.year();
        }
        DUE.is("count(7)", x.count(7), 10);
        for (int i = 9; i >= 0; i--) {
            DUE.is("undo", x.undo(), i);
            DUE.is("years", x.now(1), i + 3);
        }
        DUE.is("older ones are lost", x.undo(), STATE);
        DUE.is("years", x.now(1), 3);
        x.year();
        x.pawns(0, 1);
        DUE.is("undo behind it", x.undo(), 1);
        DUE.is("undo behind it", x.undo(), 0);
        DUE.is("purse", x.now(0), 3);
    }

    private static void now() {
        SpringPawn x = Due.of("s9 2;s9 4;c3 2 20;c2 4 7;c9 4 50;i0;l2;");
        DUE.row("now", Due.now(x), 0, 0, 0, 0, 77, 0, 0);
        x.pawns(9, 1);
        x.year();
        x.pawns(0, 3);
        x.pawns(5, 1);
        DUE.row("now", Due.now(x), 51, 1, 551, 0, 27, 3, 24);
        x.year();
        DUE.row("now", Due.now(x), 78, 2, 39, 512, 27, 3, 16);
        DUE.all("no such what", BAD, x.now(-1), x.now(7));
        for (int n : OUTSIDE) {
            DUE.is("now, " + n, x.now(n), BAD);
        }
    }

    private static void gaps() {
        SpringPawn x = Due.of("s9 2;i0;l1;");
        DUE.is("all IN", x.now(5), 0);
        x.pawns(0, 2);
        DUE.is("at the start", x.now(5), 2);
        x.pawns(8, 1);
        DUE.is("not around the year's end", x.now(5), 2);
        x.year();
        x.pawns(2, 1);
        DUE.is("lapsed and OUT side by side", x.now(5), 3);
        x.pawns(4, 4);
        DUE.is("to the end", x.now(5), 5);
        x.pawns(3, 1);
        DUE.is("all", x.now(5), 9);
    }
}
