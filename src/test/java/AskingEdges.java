/** The sentences of Terms 3: what is asked, and changes nothing. */
final class AskingEdges extends Edges {
    AskingEdges(Due due) {
        super(due);
    }

    private void terms(String words) {
        due.sentence("Terms 3", words);
    }

    @Override
    void run() {
        nothingIsChanged();
        gap();
        lends();
        cheapSums();
        cheapRows();
        cheapOrder();
        cheapAnswers();
        cheapWithoutLoans();
        freeing();
        freeingOrder();
        rich();
        bare();
        year99();
        told();
        fits();
        fitsFirst();
        fitsSure();
        odds();
    }

    static long[] cheapest(SpringPawn x, int v) {
        return new long[] {x.cheap(v, 0), x.cheap(v, 1), x.cheap(v, 2)};
    }

    static long[] freed(SpringPawn x) {
        return new long[] {x.freeing(0), x.freeing(1)};
    }

    static long[] fitting(SpringPawn x) {
        return new long[] {x.fits(0), x.fits(1), x.fits(2)};
    }

    static long[] fraction(SpringPawn x, int tenths, int v) {
        return new long[] {x.odds(tenths, v, 0), x.odds(tenths, v, 1)};
    }

    private void nothingIsChanged() {
        terms("(Nothing is changed.)");
        SpringPawn x = Whole.valley();
        x.now(5);
        x.lends(0, 9);
        cheapest(x, 1);
        cheapest(x, 999);
        freed(x);
        x.rich(0);
        x.rich(9999);
        x.bare();
        fitting(x);
        fraction(x, 0, 0);
        fraction(x, 10, 999);
        Whole.same(due, "asked", x, Whole.valley());
    }

    private void gap() {
        terms("GAP: the most DAYS one behind another that are not IN.");
        due.is("no days", new SpringPawn().now(5), 0);
        SpringPawn x = Due.of("s9 1;s9 1;s9 1;s3 1;i0;l1;");
        due.is("all are IN", x.now(5), 0);
        x.pawns(0, 2);
        due.is("the first days", x.now(5), 2);
        x.pawns(27, 3);
        due.is("the last days; not on from the last to day 0", x.now(5), 3);
        x.pawns(3, 1);
        due.is("a day that is IN ends it", x.now(5), 3);
        x.pawns(2, 1);
        due.is("loans side by side", x.now(5), 4);
        x.year();
        due.is("LAPSED", x.now(5), 4);
        x.pawns(4, 9);
        due.is("LAPSED and OUT side by side", x.now(5), 13);
        x.pawns(13, 9);
        x.pawns(22, 5);
        due.is("the whole year", x.now(5), 30);
    }

    private void lends() {
        terms("LENDS: what n DAYS (1 .. 9) from a DAY on would be LENT (0 for those that are not there).");
        SpringPawn x = Due.of("s5 1;p1;");
        for (int d = 0; d < 5; d++) {
            for (int n = 1; n <= 9; n++) {
                due.is("lends(" + d + ", " + n + ")", x.lends(d, n), Math.min(n, 5 - d));
            }
            due.all("no such n from day " + d, BAD, x.lends(d, 0), x.lends(d, 10));
        }
        due.all("no such day", BAD, x.lends(5, 1), x.lends(-1, 1), x.lends(-1, 9));
        due.is("no days", new SpringPawn().lends(0, 1), BAD);
        SpringPawn y = Due.of("s9 9;s9 9;s9 9;s3 9;p9;");
        due.row("about day 29", new long[] {y.lends(21, 9), y.lends(22, 9), y.lends(29, 9), y.lends(30, 1)}, 729, 648, 81, BAD);
    }

    private void cheapSums() {
        terms("CHEAP for v (1 .. 999)");
        SpringPawn x = Due.of("s9 9;p9;");
        due.all("no such v", BAD, x.cheap(0, 0), x.cheap(1000, 0));
        due.row("the least", cheapest(x, 1), 0, 1, 0);
        due.row("the most that there can be", cheapest(x, 729), 0, 9, 0);
        due.row("one more", cheapest(x, 730), NONE, NONE, NONE);
        due.row("the greatest", cheapest(x, 999), NONE, NONE, NONE);
        due.row("no gifts", cheapest(Due.of("s9 0;"), 1), NONE, NONE, NONE);
        due.row("no days", cheapest(new SpringPawn(), 1), NONE, NONE, NONE);
    }

    private void cheapRows() {
        terms("of all rows of 1 to 9 DAYS, all IN, for which v or more would be LENT");
        SpringPawn x = Due.of("s9 1;s1 1;p1;i0;");
        for (int v = 1; v <= 9; v++) {
            due.row("v = " + v, cheapest(x, v), 0, v, 0);
        }
        due.row("ten days are too many", cheapest(x, 10), NONE, NONE, NONE);
        x.pawns(4, 1);
        due.row("four are IN ahead of what is OUT", cheapest(x, 4), 0, 4, 0);
        due.row("five behind it", cheapest(x, 5), 5, 5, 0);
        due.row("six are not", cheapest(x, 6), NONE, NONE, NONE);
        SpringPawn y = Due.of("s1 3;p5;");
        due.row("just as much", cheapest(y, 15), 0, 1, 0);
        due.row("one more", cheapest(y, 16), NONE, NONE, NONE);
        SpringPawn z = Due.of("s9 1;s9 1;s9 1;s2 1;s1 9;p1;");
        due.row("up to day 29, not behind it", cheapest(z, 17), 21, 9, 0);
        SpringPawn lapsed = Due.of("s3 1;p1;i0;l1;");
        lapsed.pawns(1, 1);
        lapsed.year();
        due.row("over what is LAPSED there is none", cheapest(lapsed, 2), NONE, NONE, NONE);
    }

    private void cheapOrder() {
        terms("that by which HARVEST would be greatest, if they were OUT, of several the shortest, of these the first");
        due.row("two days that do no harm", cheapest(Due.of("s1 9;s2 5;c1 9 50;p1;"), 9), 1, 2, 50);
        due.row("the shortest, though not the first", cheapest(Due.of("s2 1;s1 2;p1;"), 2), 2, 1, 0);
        due.row("the first of the shortest", cheapest(Due.of("s3 2;p1;"), 2), 0, 1, 0);
        due.row("not the first of all: it does harm", cheapest(Due.of("s1 3;s2 2;c1 3 5;p1;"), 2), 1, 1, 5);
        SpringPawn x = Due.of("s3 5;s1 1;s2 5;c4 5 40;p1;");
        due.is("a poor day is between", x.now(4), 0);
        due.row("with it OUT there is more than now", cheapest(x, 1), 3, 1, 40);
        due.row("the first of two", cheapest(x, 5), 2, 2, 40);
    }

    private void cheapAnswers() {
        terms("from which DAY; how many; HARVEST then; NONE (no such row).");
        SpringPawn x = Due.of("s2 1;s2 5;c1 0 7;p1;");
        due.row("the day, how many, the harvest", cheapest(x, 6), 1, 2, 7);
        due.row("the harvest may be 0", cheapest(x, 12), 0, 4, 0);
        due.row("none", cheapest(x, 13), NONE, NONE, NONE);
    }

    private void cheapWithoutLoans() {
        terms("(LOANS need not be free.)");
        SpringPawn x = Due.of("s6 1;p1;i0;");
        for (int d = 0; d < 4; d++) {
            x.pawns(d, 1);
        }
        due.is("no loan is free", x.pawns(4, 1), STATE);
        due.row("cheap all the same", cheapest(x, 2), 4, 2, 0);
    }

    private void freeing() {
        terms("FREEING: of all sets of LOANS that can be REDEEMED with PURSE that by which HARVEST would be greatest");
        due.row("no loans: the empty set", freed(Due.of("s1 1;c1 1 9;")), 0, 9);
        due.row("no days", freed(new SpringPawn()), 0, 0);
        SpringPawn x = Due.of("s4 1;c4 1 9;p1;i0;");
        for (int d = 0; d < 4; d++) {
            x.pawns(d, 1);
        }
        due.row("the purse has just as much as all four cost", new long[] {x.now(0), x.now(6)}, 4, 4);
        due.row("all four", freed(x), 15, 9);
        SpringPawn y = Due.of("s2 5;s1 1;s2 5;c4 5 9;i0;");
        y.pawns(2, 1);
        due.row("none, if it would do harm", freed(y), 0, 9);
        y.pawns(0, 1);
        due.row("the one that does good", freed(y), 2, 9);
        SpringPawn z = Due.of("s1 1;c1 1 9;i0;l1;");
        z.pawns(0, 1);
        z.year();
        due.row("what is LAPSED is not freed", freed(z), 0, 0);
    }

    private void freeingOrder() {
        terms("of several that which costs least, of these the least bits: which (bits); HARVEST then.");
        SpringPawn x = Due.of("s1 2;s1 1;c1 0 5;p1;i0;");
        x.pawns(0, 1);
        x.pawns(1, 1);
        due.row("loan 1 costs less", freed(x), 2, 5);
        SpringPawn y = Due.of("s2 1;c1 0 5;p1;i0;");
        y.pawns(0, 1);
        y.pawns(1, 1);
        due.row("of equal cost", freed(y), 1, 5);
        SpringPawn z = Due.of("s4 1;c2 1 5;p1;i0;");
        z.pawns(0, 1);
        z.pawns(1, 1);
        z.pawns(2, 2);
        due.row("loans 0 and 1 are fewer bits than loan 2", freed(z), 3, 5);
        SpringPawn w = Due.of("s4 1;c2 1 5;p1;i0;");
        w.pawns(0, 2);
        w.pawns(2, 1);
        w.pawns(3, 1);
        due.row("loan 0 is fewer bits than loans 1 and 2", freed(w), 1, 5);
        SpringPawn free = Due.of("s2 0;s1 1;c1 1 5;i0;");
        free.pawns(0, 1);
        free.pawns(1, 1);
        due.row("loans that cost nothing and bring nothing", freed(free), 0, 5);
    }

    private void rich() {
        terms("RICH for v (0 .. 9999): in how many YEARS (0 .. 60), nothing PAWNED or REDEEMED, PURSE has v or more");
        SpringPawn x = Due.of("s2 1;c1 1 1;p1;i0;");
        due.all("no such v", BAD, x.rich(-1), x.rich(10000));
        for (int v = 0; v <= 60; v++) {
            due.is("rich(" + v + ")", x.rich(v), v);
        }
        due.all("not in 60 years", NONE, x.rich(61), x.rich(9999));
        x.pawns(0, 1);
        due.row("with the purse", new long[] {x.rich(1), x.rich(2), x.rich(61), x.rich(62)}, 0, 1, 60, NONE);
        SpringPawn y = Due.of("s1 9;c1 9 99;c1 9 99;c1 9 99;c1 9 99;");
        due.is("the greatest v", y.rich(9999), 26);
        SpringPawn z = Due.of("s3 1;c1 1 5;p1;i1;");
        z.pawns(0, 1);
        due.row("till nothing ripens any more", new long[] {z.rich(1), z.rich(6), z.rich(11), z.rich(12)}, 0, 1, 2, NONE);
        due.row("no days", new long[] {new SpringPawn().rich(0), new SpringPawn().rich(1)}, 0, NONE);
    }

    private void bare() {
        terms("BARE: in how many (0 .. 60) nothing ripens; NONE.");
        due.is("no days, no crops", new SpringPawn().bare(), 0);
        due.is("crops, no days", Due.of("c1 0 1;").bare(), 0);
        due.is("something ripens every year", Due.of("s1 1;c1 1 1;").bare(), NONE);
        due.is("a crop of no worth ripens too", Due.of("s1 1;c1 1 0;").bare(), NONE);
        for (int days = 1; days <= 9; days++) {
            SpringPawn x = Due.of("s" + days + " 1;c1 1 1;i1;");
            x.pawns(0, 1);
            due.is(days + " days, one a year", x.bare(), days - 1);
        }
        SpringPawn y = Due.of("s9 1;s1 1;c1 1 1;i1;");
        y.pawns(0, 1);
        due.is("in the year in which it lapses", y.bare(), 9);
        SpringPawn z = Due.of("s9 1;s2 1;c1 1 1;i1;");
        z.pawns(0, 1);
        due.is("it lapses, and leaves one day", z.bare(), NONE);
        SpringPawn w = Due.of("s3 1;c1 1 1;i1;l2;");
        w.pawns(0, 1);
        due.is("in the second year it takes the last day, and lapses", w.bare(), 2);
        w.year();
        due.is("it is a year old: one more", w.bare(), 1);
        SpringPawn v = Due.of("s4 1;c1 1 1;i1;l2;");
        v.pawns(0, 1);
        due.is("it lapses ahead of the last day", v.bare(), NONE);
        v.year();
        due.is("it is a year old: it lapses all the same", v.bare(), NONE);
    }

    private void year99() {
        terms("(YEAR 99 does not matter.)");
        SpringPawn x = Due.of("s9 1;s1 1;c1 1 1;p1;i1;");
        years(x, 99);
        due.is("no year goes by any more", x.year(), STATE);
        due.row("rich goes on", new long[] {x.rich(99), x.rich(100), x.rich(159), x.rich(160)}, 0, 1, 60, NONE);
        x.pawns(0, 1);
        due.is("bare goes on", x.bare(), 9);
        due.is("the years are as they were", x.now(1), 99);
    }

    private void told() {
        terms("TOLD (6 at most): a CROP ripened (1), or did not (0).");
        SpringPawn x = Due.of("s1 1;c1 1 1;");
        due.all("neither", BAD, x.tells(0, -1), x.tells(0, 2));
        for (int i = 1; i <= 6; i++) {
            due.is("told " + i, x.tells(0, 1), i);
        }
        due.all("one more", FULL, x.tells(0, 1), x.tells(0, 0));
        due.is("six", x.count(6), 6);
        due.is("the day can't have been out", x.fits(0), 0);
        x.forget();
        x.tells(0, 0);
        due.is("the day was out", x.fits(0), 1);
    }

    private void fits() {
        terms("FITS: rows of 1 to 9 DAYS of THE YEAR such that, were just these not IN, all that was TOLD is so: how many");
        due.is("no days", new SpringPawn().fits(0), 0);
        for (int days = 1; days <= 9; days++) {
            due.is(days + " days", Due.of("s" + days + " 1;").fits(0), days * (days + 1) / 2);
        }
        due.is("10 days: all but the row of ten", Due.of("s9 1;s1 1;").fits(0), 54);
        due.is("30 days", Due.of("s9 1;s9 1;s9 1;s3 1;").fits(0), 234);
        SpringPawn x = Due.of("s9 1;s1 1;c1 1 1;i0;l1;");
        x.tells(0, 0);
        due.is("no row of nine is all ten days", x.fits(0), 0);
        x.forget();
        x.tells(0, 1);
        due.is("one day at least is left", x.fits(0), 54);
        x.pawns(0, 9);
        x.pawns(9, 1);
        due.is("what is OUT does not matter", x.fits(0), 54);
        x.year();
        due.is("what is LAPSED does not matter", x.fits(0), 54);
        x.tells(0, 0);
        due.is("both can't be", x.fits(0), 0);
        SpringPawn y = Due.of("s1 5;s1 0;s1 5;c2 5 1;");
        y.tells(0, 1);
        due.row("only without the poor day", fitting(y), 1, 101, 2);
        SpringPawn last = Due.of("s1 9;s1 8;s1 7;c1 9 1;c1 8 1;c3 7 1;");
        for (int i = 0; i < 5; i++) {
            last.tells(1, 1);
        }
        due.row("five are told", fitting(last), 4, 1, 0);
        last.tells(0, 0);
        due.row("the sixth counts too", fitting(last), 1, 1, 1);
    }

    private void fitsFirst() {
        terms("the first (100 times the first DAY and how many, the least such)");
        due.is("from day 0, one", Due.of("s1 1;").fits(1), 1);
        SpringPawn x = Due.of("s9 1;s9 1;s9 1;s2 1;s1 9;c1 9 1;");
        x.tells(0, 0);
        due.row("nine days up to day 29", fitting(x), 9, 2109, 1 << 29);
        SpringPawn y = Due.of("s9 9;s1 1;c9 9 1;");
        y.tells(0, 1);
        due.row("only the last day", fitting(y), 1, 901, 1 << 9);
    }

    private void fitsSure() {
        terms("SURE: DAYS in all of them (bits); NONE.");
        due.is("no row: none", new SpringPawn().fits(2), NONE);
        due.is("one row", Due.of("s1 1;").fits(2), 1);
        due.is("rows that have no day together: 0", Due.of("s2 1;").fits(2), 0);
        SpringPawn x = Due.of("s9 1;s1 1;c2 1 1;");
        x.tells(0, 0);
        due.row("two rows of nine", fitting(x), 2, 9, bits(1, 8));
        x.tells(0, 1);
        due.row("no row any more", fitting(x), 0, NONE, NONE);
    }

    private void odds() {
        terms("ODDS by x (0 .. 10), v (0 .. 999): each CROP that ripens is spoilt by hail by x in 10, for itself: that HARVEST is v or more: a fraction.");
        SpringPawn x = Due.of("s1 5;c1 5 10;c1 5 10;c1 9 50;");
        due.all("no such x", BAD, x.odds(-1, 0, 0), x.odds(11, 0, 0));
        due.all("no such v", BAD, x.odds(0, -1, 0), x.odds(0, 1000, 0));
        due.row("x = 0, all of it", fraction(x, 0, 20), 1, 1);
        due.row("x = 0, one more", fraction(x, 0, 21), 0, 1);
        due.row("x = 10, nothing is left", fraction(x, 10, 1), 0, 1);
        due.row("x = 10, v = 0", fraction(x, 10, 0), 1, 1);
        due.row("x = 1, v = 0", fraction(x, 1, 0), 1, 1);
        due.row("x = 1, one of two at least", fraction(x, 1, 10), 99, 100);
        due.row("x = 1, both", fraction(x, 1, 11), 81, 100);
        due.row("x = 9, both", fraction(x, 9, 20), 1, 100);
        due.row("v = 999", fraction(x, 0, 999), 0, 1);
        due.row("no crops, v = 0", fraction(new SpringPawn(), 10, 0), 1, 1);
        due.row("no crops, v = 1", fraction(new SpringPawn(), 0, 1), 0, 1);
        SpringPawn y = Due.of("s1 9;c1 9 99;c1 9 99;c1 9 99;c1 9 99;");
        due.row("all four, the most", fraction(y, 3, 396), 2401, 10000);
        due.row("one more than that", fraction(y, 3, 397), 0, 1);
    }
}
