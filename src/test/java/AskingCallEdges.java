/** The sentences of promises 13 to 21: pawn and redeem, what was out, hail. */
final class AskingCallEdges extends Edges {
    AskingCallEdges(Due due) {
        super(due);
    }

    private void promise(int number, String words) {
        due.sentence("Promise " + number, words);
    }

    @Override
    void run() {
        lends();
        cheap();
        cheapBad();
        freeing();
        rich();
        bare();
        tells();
        tellsRefused();
        forget();
        fits();
        fitsBad();
        odds();
        oddsBad();
    }

    private void lends() {
        promise(13, "LENDS. BAD.");
        SpringPawn x = Due.of("s9 9;s9 1;s9 0;s3 9;p9;");
        due.row("the most, the least, up to the last day", new long[] {x.lends(0, 9), x.lends(18, 9), x.lends(27, 3)}, 729, 0, 243);
        due.row("what is not there is 0", new long[] {x.lends(27, 4), x.lends(27, 9), x.lends(29, 9)}, 243, 243, 81);
        range("lends, d", 0, 29, BAD, d -> x.lends(d, 1));
        range("lends, d, nine days", 0, 29, BAD, d -> x.lends(d, 9));
        range("lends, n", 1, 9, BAD, n -> x.lends(0, n));
        range("lends, n from the last day", 1, 9, BAD, n -> x.lends(29, n));
        due.all("numbers that come to a day if they go round", BAD, x.lends(Integer.MAX_VALUE, 2), x.lends(32, 1),
            x.lends(Integer.MAX_VALUE, Integer.MAX_VALUE));
        due.all("no days", BAD, new SpringPawn().lends(0, 1), new SpringPawn().lends(0, 9));
    }

    private void cheap() {
        promise(14, "CHEAP: from which DAY (what = 0), how many (1), HARVEST then (2); NONE.");
        SpringPawn x = Due.of("s9 1;s9 1;s9 1;s3 9;c3 9 20;c9 1 30;p1;");
        due.row("one day", AskingEdges.cheapest(x, 1), 0, 1, 50);
        due.row("the last ones", AskingEdges.cheapest(x, 33), 21, 9, 30);
        due.row("one more", AskingEdges.cheapest(x, 34), NONE, NONE, NONE);
        due.row("nine that do no harm", AskingEdges.cheapest(x, 9), 0, 9, 50);
        due.row("two that do", AskingEdges.cheapest(x, 10), 26, 2, 30);
        due.row("no days", AskingEdges.cheapest(new SpringPawn(), 1), NONE, NONE, NONE);
    }

    private void cheapBad() {
        promise(14, "BAD.");
        SpringPawn x = Due.of("s9 1;");
        for (int what = 0; what <= 2; what++) {
            int w = what;
            range("cheap, v, what " + w, 1, 999, BAD, v -> x.cheap(v, w));
        }
        range("cheap, what", 0, 2, BAD, what -> x.cheap(1, what));
        range("cheap of what is not there, what", 0, 2, BAD, what -> x.cheap(999, what));
    }

    private void freeing() {
        promise(15, "FREEING: which (what = 0, bits), HARVEST then (1). BAD.");
        SpringPawn x = Due.of("s5 1;c5 1 9;p1;i0;");
        due.row("no loans", AskingEdges.freed(x), 0, 9);
        x.pawns(0, 1);
        x.pawns(1, 1);
        x.redeems(0);
        due.row("loan 1", AskingEdges.freed(x), 2, 9);
        x.pawns(0, 1);
        x.pawns(2, 1);
        x.pawns(3, 1);
        due.row("all four", AskingEdges.freed(x), 15, 9);
        x.redeems(2);
        due.row("all that there are", AskingEdges.freed(x), 11, 9);
        range("freeing", 0, 1, BAD, what -> x.freeing(what));
        range("freeing of a new object", 0, 1, BAD, what -> new SpringPawn().freeing(what));
    }

    private void rich() {
        promise(16, "RICH; NONE. BAD.");
        SpringPawn x = Due.of("s1 1;c1 1 99;c1 1 67;");
        due.row("60 years, one more", new long[] {x.rich(9960), x.rich(9961), x.rich(9999)}, 60, NONE, NONE);
        due.row("no year, one, two", new long[] {x.rich(0), x.rich(1), x.rich(166), x.rich(167)}, 0, 1, 1, 2);
        range("rich", 0, 9999, BAD, v -> x.rich(v));
        range("rich of a new object", 0, 9999, BAD, v -> new SpringPawn().rich(v));
    }

    private void bare() {
        promise(17, "BARE; NONE.");
        SpringPawn x = Due.of("s9 1;c1 1 0;i5;");
        due.is("something ripens for ever", x.bare(), NONE);
        x.pawns(0, 3);
        due.is("in two years", x.bare(), 2);
        x.year();
        due.is("in one", x.bare(), 1);
        x.year();
        due.is("now", x.bare(), 0);
        x.redeems(0);
        due.is("for ever again", x.bare(), NONE);
        due.is("a new object", new SpringPawn().bare(), 0);
    }

    private void tells() {
        promise(18, "TOLD: how much there is.");
        SpringPawn x = Due.of("s1 1;c1 1 1;c1 1 1;c1 1 1;c1 1 1;");
        due.row("the first and the last crop", new long[] {x.tells(0, 0), x.tells(3, 1), x.tells(3, 1), x.tells(0, 1), x.tells(1, 1),
            x.tells(2, 0)}, 1, 2, 3, 4, 5, 6);
        due.is("how much", x.count(6), 6);
    }

    private void tellsRefused() {
        promise(18, "BAD; FULL.");
        SpringPawn x = Due.of("s1 1;c1 1 1;c1 1 1;c1 1 1;c1 1 1;");
        range("tells, c", 0, 3, BAD, c -> x.tells(c, 0));
        due.is("four were told", x.forget(), 4);
        range("tells, is", 0, 1, BAD, is -> x.tells(0, is));
        x.tells(0, 1);
        due.is("the sixth", x.tells(0, 1), 6);
        due.all("one more", FULL, x.tells(0, 1), x.tells(3, 0));
        due.all("BAD goes first", BAD, x.tells(4, 0), x.tells(-1, 0), x.tells(0, 2), x.tells(0, -1));
        due.is("six", x.forget(), 6);
        due.is("forgotten: not full any more", x.tells(0, 1), 1);
        due.all("no crops", BAD, new SpringPawn().tells(0, 0), new SpringPawn().tells(0, 1));
    }

    private void forget() {
        promise(19, "Nothing was TOLD: how much there was.");
        SpringPawn x = Due.of("s1 1;c1 1 1;");
        due.is("nothing", x.forget(), 0);
        for (int i = 0; i < 7; i++) {
            x.tells(0, 1);
        }
        due.is("six", x.forget(), 6);
        due.is("nothing now", x.forget(), 0);
        due.is("nothing is TOLD", x.count(6), 0);
        due.is("every row fits again", x.fits(0), 1);
        due.is("a new object", new SpringPawn().forget(), 0);
        SpringPawn y = Whole.valley();
        SpringPawn z = Whole.valley();
        y.forget();
        z.forget();
        z.forget();
        Whole.same(due, "nothing else changes", y, z);
    }

    private void fits() {
        promise(20, "FITS: how many (what = 0), the first (1; NONE), SURE (2, bits; NONE).");
        due.row("no days", AskingEdges.fitting(new SpringPawn()), 0, NONE, NONE);
        due.row("one day", AskingEdges.fitting(Due.of("s1 1;")), 1, 1, 1);
        due.row("30 days", AskingEdges.fitting(Due.of("s9 1;s9 1;s9 1;s3 1;")), 234, 1, 0);
        SpringPawn x = Due.of("s9 1;s9 1;s9 1;s2 1;s1 9;c1 9 1;c9 1 1;");
        x.tells(0, 0);
        due.row("those with the last day", AskingEdges.fitting(x), 9, 2109, 1 << 29);
        x.tells(0, 1);
        due.row("none", AskingEdges.fitting(x), 0, NONE, NONE);
    }

    private void fitsBad() {
        promise(20, "BAD.");
        SpringPawn x = Due.of("s9 1;c1 1 1;");
        range("fits", 0, 2, BAD, what -> x.fits(what));
        x.tells(0, 0);
        x.tells(0, 1);
        range("fits of none", 0, 2, BAD, what -> x.fits(what));
        range("fits of a new object", 0, 2, BAD, what -> new SpringPawn().fits(what));
    }

    private void odds() {
        promise(21, "ODDS: upper (what = 0), lower number (1), in least terms.");
        SpringPawn x = Due.of("s1 9;c1 9 1;c1 9 1;c1 9 1;c1 9 1;");
        due.row("for sure", AskingEdges.fraction(x, 3, 0), 1, 1);
        due.row("never", AskingEdges.fraction(x, 3, 5), 0, 1);
        due.row("never, though 0 of 10000", AskingEdges.fraction(x, 10, 4), 0, 1);
        due.row("for sure, though 10000 of 10000", AskingEdges.fraction(x, 0, 4), 1, 1);
        due.row("1 in 16", AskingEdges.fraction(x, 5, 4), 1, 16);
        due.row("15 in 16", AskingEdges.fraction(x, 5, 1), 15, 16);
        due.row("256 in 625", AskingEdges.fraction(x, 2, 4), 256, 625);
        due.row("no lower terms", AskingEdges.fraction(x, 9, 4), 1, 10000);
        due.row("no lower terms", AskingEdges.fraction(x, 9, 1), 3439, 10000);
        x.pawns(0, 1);
        due.row("nothing ripens: v = 0", AskingEdges.fraction(x, 5, 0), 1, 1);
        due.row("nothing ripens: v = 1", AskingEdges.fraction(x, 5, 1), 0, 1);
    }

    private void oddsBad() {
        promise(21, "BAD.");
        SpringPawn x = Due.of("s1 9;c1 9 99;");
        for (int what = 0; what <= 1; what++) {
            int w = what;
            range("odds, x, what " + w, 0, 10, BAD, tenths -> x.odds(tenths, 0, w));
            range("odds, v, what " + w, 0, 999, BAD, v -> x.odds(0, v, w));
        }
        range("odds, what", 0, 1, BAD, what -> x.odds(10, 999, what));
        range("odds of a new object, what", 0, 1, BAD, what -> new SpringPawn().odds(0, 0, what));
    }
}
