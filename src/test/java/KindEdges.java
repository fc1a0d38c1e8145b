/** The sentences of Terms 4: kinds and images, and a text read anew. */
final class KindEdges extends Edges {
    KindEdges(Due due) {
        super(due);
    }

    private void terms(String words) {
        due.sentence("Terms 4", words);
    }

    @Override
    void run() {
        kinds();
        up();
        bodies();
        sloe();
        lamb();
        images();
        nothingElse();
        readAnew();
        no();
    }

    private static long[] marks(SpringPawn x, int c) {
        return row(6, kind -> x.mark(kind, c));
    }

    private void kinds() {
        terms("KINDS of CROPS are over one another: 0 CROP; 1 HAY, 2 PLUM, 5 LAMB (each under CROP); 3 CLOVER (under HAY); 4 SLOE (under PLUM).");
        SpringPawn x = Due.of("s9 5;c3 4 20;");
        due.row("each kind", marks(x, 0), 20, 23, 16, 46, 25, 20);
        due.all("no others", NO, x.mark(-1, 0), x.mark(6, 0));
    }

    private void up() {
        terms("MARK of a CROP as if of a KIND (numbers in brackets come to THE TRACE as often as mark() asks that body; \"up\" is what the KIND above does)");
        SpringPawn x = Due.of("s9 5;c3 4 20;c9 9 99;");
        due.is("at first", x.trace(), 0);
        long[] come = {1, 11, 101, 1011, 10101, 100001};
        long all = 0;
        for (int c = 0; c < 2; c++) {
            for (int kind = 0; kind < 6; kind++) {
                x.mark(kind, c);
                all += come[kind];
                due.is("the trace behind kind " + kind, x.trace(), all);
            }
        }
        x.mark(6, 0);
        x.mark(-1, 0);
        x.mark(0, 2);
        x.mark(0, -1);
        due.is("nothing for a mark that is refused", x.trace(), all);
        x.crop(0, 3);
        x.now(4);
        x.fits(0);
        x.year();
        due.is("nothing but mark() comes to it", x.trace(), all);
        for (int i = 0; i < 400; i++) {
            x.mark(5, 0);
        }
        due.is("it goes on", x.trace(), all + 400L * 100001);
    }

    private void bodies() {
        String[] words = {"CROP its WORTH (1).", "HAY up, and its NEEDS (10).", "PLUM up less its LEAST GIFT (100).",
            "CLOVER up times 2 (1000)."};
        long[][] due4 = {{0, 99, 0, 99}, {9, 100, 1, 108}, {-9, 99, 0, 90}, {18, 200, 2, 216}};
        for (int kind = 0; kind < words.length; kind++) {
            terms(words[kind]);
            SpringPawn x = Due.of("s1 1;c9 9 0;c1 0 99;c1 0 0;c9 9 99;");
            int k = kind;
            due.row("the least and the most there may be", row(4, c -> x.mark(k, c)), due4[kind]);
        }
    }

    private void sloe() {
        terms("SLOE up, and 9 if it ripens (10000).");
        SpringPawn x = Due.of("s1 9;c1 9 0;c2 9 0;c1 0 99;");
        due.row("ripe, not ripe, ripe", row(3, c -> x.mark(4, c)), 0, -9, 108);
        x.pawns(0, 1);
        due.row("none is ripe", row(3, c -> x.mark(4, c)), -9, -9, 99);
        x.redeems(0);
        due.row("ripe again", row(3, c -> x.mark(4, c)), 0, -9, 108);
    }

    private void lamb() {
        terms("LAMB up, and YEARS (100000).");
        SpringPawn x = Due.of("s1 9;c1 9 0;c2 9 99;");
        due.row("at first", row(2, c -> x.mark(5, c)), 0, 99);
        years(x, 99);
        x.year();
        due.row("99 years on", row(2, c -> x.mark(5, c)), 99, 198);
        x.undo();
        due.row("a year undone", row(2, c -> x.mark(5, c)), 98, 197);
    }

    private void images() {
        terms("IMAGES 0, 1 keep NOW (LOANS, what is LAPSED, PURSE, YEARS, what may be UNDONE)");
        SpringPawn x = Whole.valley();
        x.keep(1);
        x.keep(0);
        x.redeems(0);
        years(x, 12);
        x.pawns(0, 1);
        x.back(0);
        SpringPawn y = Whole.valley();
        y.keep(1);
        y.keep(0);
        Whole.same(due, "as it was kept", x, y);
        due.all("no other images", BAD, x.keep(-1), x.keep(2), x.back(-1), x.back(2));
        SpringPawn z = Due.of("s1 1;c1 1 1;");
        years(z, 3);
        z.keep(0);
        years(z, 10);
        z.back(0);
        due.is("what may be undone, and no more", z.count(7), 3);
        due.row("undone", new long[] {z.undo(), z.undo(), z.undo(), z.undo()}, 2, 1, 0, STATE);
        due.is("to the first year", z.now(1), 0);
        z.back(0);
        due.row("the image is as it was", new long[] {z.count(7), z.now(1), z.now(0)}, 3, 3, 3);
        SpringPawn w = Due.of("s9 1;i1;l3;");
        w.pawns(0, 1);
        w.year();
        w.keep(1);
        w.year();
        w.back(1);
        due.row("a loan's DAYS, LENT and AGE", Due.loan(w, 0), 3, 2, 1);
        years(w, 2);
        w.back(1);
        due.row("lapsed since: it is there again", Due.loan(w, 0), 3, 2, 1);
    }

    private void nothingElse() {
        terms("nothing else.");
        SpringPawn x = Due.of("s9 2;c4 1 10;");
        x.tells(0, 1);
        x.type('s');
        x.mark(0, 0);
        x.keep(0);
        x.tells(0, 0);
        x.type('p');
        x.mark(1, 0);
        x.keep(1);
        x.back(0);
        due.row("TOLD, THE TEXT, THE TRACE", new long[] {x.count(6), x.count(8), x.trace()}, 2, 2, 12);
        due.is("the other image", x.back(1), 0);
        x.forget();
        x.clear();
        x.back(0);
        due.row("TOLD, THE TEXT, THE TRACE", new long[] {x.count(6), x.count(8), x.trace()}, 0, 0, 12);
    }

    private void readAnew() {
        terms("(Read anew: as told, all IN, nothing TOLD or to be UNDONE, IMAGES are gone.)");
        SpringPawn x = Whole.valley();
        x.clear();
        x.keep(0);
        long trace = x.trace();
        due.is("read anew", Due.read(x, "s2 1;s7 9;c1 1 3;"), 3);
        due.row("as told, nothing TOLD or to be UNDONE", Due.counts(x), 9, 2, 1, 2, 3, 9, 0, 0, 0);
        due.row("all IN, nothing in PURSE, no YEARS", Due.now(x), 0, 0, 0, 0, 3, 0, 0);
        due.row("how the days are", row(9, d -> x.day(d, 2)), new long[9]);
        due.row("the loans are free", row(4, l -> x.loan(l, 0)), NONE, NONE, NONE, NONE);
        due.all("nothing to be UNDONE, IMAGES are gone", STATE, x.undo(), x.back(0), x.back(1));
        due.is("all rows fit", x.fits(0), 45);
        due.is("THE TRACE is as it was", x.trace(), trace);
        due.is("the crop of the older text is not there", x.crop(1, 0), BAD);
        due.is("one year again", x.year(), 3);
        due.is("99 at most are counted anew", x.now(1), 1);
    }

    private void no() {
        terms("The constants: `NO = -1000000`: What none is, where a number may be below 0.");
        due.is("NO", SpringPawn.NO, -1000000);
        SpringPawn x = Due.of("c1 1 0;c1 9 0;");
        due.is("a mark of BAD's number", x.mark(2, 0), BAD);
        due.is("a mark of NONE's number", x.mark(2, 1), NONE);
        due.is("no mark", x.mark(2, 2), NO);
    }
}
