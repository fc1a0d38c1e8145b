/** The sentences of promises 8 to 12: pawned, redeemed, years, undone, now. */
final class DeedCallEdges extends Edges {
    DeedCallEdges(Due due) {
        super(due);
    }

    private void promise(int number, String words) {
        due.sentence("Promise " + number, words);
    }

    @Override
    void run() {
        pawns();
        pawnsBad();
        pawnsNotIn();
        pawnsNoLoan();
        redeems();
        redeemsBad();
        redeemsState();
        year();
        yearState();
        undo();
        undoState();
        now();
        nowBad();
    }

    private void pawns() {
        promise(8, "PAWNED: what was LENT.");
        SpringPawn x = Due.of("s9 9;s9 0;s1 1;p9;");
        due.is("the most", x.pawns(0, 9), 729);
        due.is("nothing", x.pawns(9, 9), 0);
        due.is("one day", x.pawns(18, 1), 9);
        for (int n = 1; n <= 9; n++) {
            SpringPawn y = Due.of("s9 1;p1;");
            due.is("from day 0, " + n, y.pawns(0, n), n);
            SpringPawn z = Due.of("s9 1;p1;");
            due.is("up to the last day, " + n, z.pawns(9 - n, n), n);
        }
    }

    private void pawnsBad() {
        promise(8, "BAD;");
        SpringPawn x = Due.of("s9 1;s9 1;s9 1;s3 1;");
        range("pawns, d", 0, 29, BAD, d -> x.pawns(d, 1));
        range("pawns, n", 1, 9, BAD, n -> x.pawns(15, n));
        due.all("both", BAD, x.pawns(-1, 0), x.pawns(30, 10), x.pawns(Integer.MAX_VALUE, Integer.MAX_VALUE),
            x.pawns(Integer.MIN_VALUE, Integer.MIN_VALUE));
        due.all("numbers that come to a day if they go round", BAD, x.pawns(Integer.MAX_VALUE, 2), x.pawns(32, 1), x.pawns(29, -1),
            x.pawns(0, 32), x.pawns(0, 33));
        due.all("no days", BAD, new SpringPawn().pawns(0, 1), new SpringPawn().pawns(0, 9));
    }

    private void pawnsNotIn() {
        promise(8, "STATE: they are not all IN");
        SpringPawn x = Due.of("s9 1;i0;l1;");
        due.all("behind the last day", STATE, x.pawns(8, 2), x.pawns(1, 9), x.pawns(8, 9));
        x.pawns(4, 1);
        due.all("OUT: the only one, the first, the last, one between", STATE, x.pawns(4, 1), x.pawns(4, 2), x.pawns(3, 2),
            x.pawns(3, 3), x.pawns(0, 9));
        x.year();
        due.all("LAPSED: the only one, the first, the last, one between", STATE, x.pawns(4, 1), x.pawns(4, 2), x.pawns(3, 2),
            x.pawns(3, 3), x.pawns(0, 9));
        due.is("those ahead of it", x.pawns(0, 4), 8);
        due.is("those behind it", x.pawns(5, 4), 8);
    }

    private void pawnsNoLoan() {
        promise(8, "no LOAN is free.");
        SpringPawn x = Due.of("s9 1;i0;l2;");
        for (int d = 0; d < 4; d++) {
            due.is("loan " + d, x.pawns(d, 1), 2);
        }
        due.all("a fifth", STATE, x.pawns(4, 1), x.pawns(4, 5));
        x.undo();
        due.is("one undone: one is free", x.pawns(4, 1), 2);
        due.is("none again", x.pawns(5, 1), STATE);
        x.redeems(2);
        due.is("one redeemed: one is free", x.pawns(5, 1), 2);
        due.is("none again", x.pawns(6, 1), STATE);
        years(x, 2);
        due.is("all lapsed: all are free", x.pawns(6, 1), 2);
    }

    private void redeems() {
        promise(9, "REDEEMED: PURSE then.");
        SpringPawn x = Due.of("s9 1;s1 0;c1 1 5;p1;i0;");
        x.pawns(0, 2);
        x.pawns(9, 1);
        due.is("nothing was LENT", x.redeems(1), 2);
        due.is("all that is in the purse", x.redeems(0), 0);
        x.pawns(0, 9);
        x.pawns(9, 1);
        due.is("nothing ripens", x.year(), 0);
        due.is("just as much", x.redeems(0), 0);
        x.year();
        due.is("with a harvest", x.redeems(1), 5);
    }

    private void redeemsBad() {
        promise(9, "BAD;");
        SpringPawn x = Due.of("s9 1;i0;");
        for (int d = 0; d < 4; d++) {
            x.pawns(d, 1);
        }
        range("redeems", 0, 3, BAD, l -> x.redeems(l));
        due.is("none of them was redeemed but those that are there", x.now(6), 0);
    }

    /** PURSE always has so much: what is LENT stays in it until it is paid back. */
    private void redeemsState() {
        promise(9, "STATE: it is free, PURSE has not so much.");
        SpringPawn x = Due.of("s9 9;p9;i0;l2;");
        due.all("free at first", STATE, x.redeems(0), x.redeems(1), x.redeems(2), x.redeems(3));
        x.pawns(0, 1);
        due.is("the next one is free", x.redeems(1), STATE);
        due.is("redeemed", x.redeems(0), 0);
        due.is("free again", x.redeems(0), STATE);
        x.undo();
        due.is("that undone", x.redeems(0), 0);
        x.pawns(0, 9);
        years(x, 2);
        due.is("lapsed: free, though the purse has so much", x.redeems(0), STATE);
        due.is("the purse", x.now(0), 729);
        SpringPawn y = Due.of("s9 9;p9;i0;l2;");
        y.pawns(0, 4);
        y.pawns(4, 5);
        due.is("the purse has just so much for one", y.redeems(1), 324);
        due.is("and for the other", y.redeems(0), 0);
    }

    private void year() {
        promise(10, "A YEAR: HARVEST.");
        due.is("no days", new SpringPawn().year(), 0);
        due.is("nothing ripens", Due.of("s9 8;c1 9 99;").year(), 0);
        due.is("the most", Due.of("s9 9;c9 9 99;c9 9 99;c9 9 99;c9 9 99;").year(), 396);
        SpringPawn x = Due.of("s2 1;c1 1 5;c2 1 7;p1;i1;l1;");
        x.pawns(0, 1);
        due.is("as it was ahead of the interest", x.year(), 5);
        due.row("LAPSED", new long[] {x.now(3), x.now(4)}, 3, 0);
    }

    private void yearState() {
        promise(10, "STATE: there were 99.");
        SpringPawn x = Due.of("s1 1;c1 1 1;");
        years(x, 98);
        due.is("the 99th", x.year(), 1);
        due.is("the hundredth", x.year(), STATE);
        due.is("the years", x.now(1), 99);
        due.is("what may be undone", x.count(7), 10);
        due.is("pawned all the same", x.pawns(0, 1), 2);
        due.is("no year for that", x.year(), STATE);
        due.is("redeemed all the same", x.redeems(0), 99);
        x.keep(0);
        x.undo();
        x.undo();
        x.undo();
        due.is("98 now", x.now(1), 98);
        due.is("the 99th again", x.year(), 1);
        x.back(0);
        due.is("there were 99 in the image", x.year(), STATE);
        Due.read(x, "s1 1;");
        due.is("a text read anew", x.year(), 0);
    }

    private void undo() {
        promise(11, "UNDONE: how many more may be.");
        SpringPawn x = Due.of("s9 1;c1 1 1;i0;");
        x.pawns(0, 1);
        due.is("the only one", x.undo(), 0);
        years(x, 9);
        x.pawns(0, 1);
        due.is("ten", x.count(7), 10);
        x.redeems(0);
        due.is("ten at most", x.count(7), 10);
        due.row("how many more", row(10, i -> x.undo()), 9, 8, 7, 6, 5, 4, 3, 2, 1, 0);
        due.is("the oldest is lost", x.now(1), 1);
        x.year();
        due.is("one again", x.undo(), 0);
    }

    private void undoState() {
        promise(11, "STATE: none.");
        SpringPawn x = Due.of("s9 1;c1 1 1;");
        due.is("nothing was done", x.undo(), STATE);
        x.pawns(9, 1);
        x.pawns(8, 2);
        x.redeems(0);
        x.tells(0, 1);
        x.type('s');
        x.clear();
        x.mark(0, 0);
        x.keep(0);
        x.back(0);
        x.forget();
        due.is("what is refused, and what is no deed", x.undo(), STATE);
        x.year();
        x.undo();
        due.is("all is undone", x.undo(), STATE);
        x.year();
        Due.read(x, "s1 1;");
        due.is("read anew", x.undo(), STATE);
    }

    private void now() {
        promise(12, "0 PURSE, 1 YEARS, 2 DAYS OUT (bits), 3 LAPSED (bits), 4 HARVEST, 5 GAP, 6 what is owed to all LOANS together.");
        due.row("a new object", Due.now(new SpringPawn()), 0, 0, 0, 0, 0, 0, 0);
        SpringPawn x = Due.of("s9 9;s9 9;s9 9;s3 9;c9 9 99;p9;i0;l1;");
        x.pawns(0, 9);
        x.pawns(9, 9);
        x.pawns(18, 9);
        x.pawns(27, 3);
        due.row("all are OUT", Due.now(x), 2430, 0, bits(0, 30), 0, 0, 30, 2430);
        x.year();
        due.row("all are LAPSED", Due.now(x), 2430, 1, 0, bits(0, 30), 0, 30, 0);
        x.undo();
        x.redeems(1);
        due.row("nine are IN", Due.now(x), 1701, 0, bits(0, 9) | bits(18, 12), 0, 99, 12, 1701);
        x.year();
        due.row("a year on", Due.now(x), 1800, 1, 0, bits(0, 9) | bits(18, 12), 99, 12, 0);
    }

    private void nowBad() {
        promise(12, "BAD.");
        SpringPawn x = Whole.valley();
        range("now", 0, 6, BAD, what -> x.now(what));
        range("now of a new object", 0, 6, BAD, what -> new SpringPawn().now(what));
    }
}
