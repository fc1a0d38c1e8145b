/** The sentences of promises 22 to 26: kinds, images, counts, the trace. */
final class KindCallEdges extends Edges {
    KindCallEdges(Due due) {
        super(due);
    }

    private void promise(int number, String words) {
        due.sentence("Promise " + number, words);
    }

    @Override
    void run() {
        mark();
        keep();
        keepBad();
        back();
        backBad();
        backState();
        count();
        countBad();
        trace();
    }

    private void mark() {
        promise(22, "MARK. NO: BAD.");
        SpringPawn x = Due.of("s1 1;c9 9 0;c1 0 99;c1 0 0;c9 9 99;");
        due.row("the least there is", row(6, kind -> x.mark(kind, 0)), 0, 9, -9, 18, -9, 0);
        due.row("the most there is", row(6, kind -> x.mark(kind, 3)), 99, 108, 90, 216, 90, 99);
        range("mark, kind", 0, 5, NO, kind -> x.mark(kind, 0));
        range("mark, crop", 0, 3, NO, c -> x.mark(0, c));
        range("mark of kind 5, crop", 0, 3, NO, c -> x.mark(5, c));
        due.all("no crops", NO, new SpringPawn().mark(0, 0), new SpringPawn().mark(5, 0));
        due.all("both", NO, x.mark(6, 4), x.mark(-1, -1));
    }

    private void keep() {
        promise(23, "An IMAGE is kept: PURSE.");
        SpringPawn x = Due.of("s9 9;p9;c1 1 5;i0;");
        due.is("an empty purse", x.keep(0), 0);
        x.pawns(0, 8);
        due.is("a full one", x.keep(1), 648);
        x.year();
        due.is("kept over", x.keep(0), 653);
        x.redeems(0);
        due.is("the later one", x.back(0), 653);
        due.is("the other one is as it was", x.back(1), 648);
        due.is("a new object", new SpringPawn().keep(1), 0);
    }

    private void keepBad() {
        promise(23, "BAD.");
        SpringPawn x = Due.of("s9 9;");
        far("keep", BAD, image -> x.keep(image));
        due.all("no such image", BAD, x.keep(-1), x.keep(2));
        due.all("none was kept by that", STATE, x.back(0), x.back(1));
        range("keep", 0, 1, BAD, image -> x.keep(image));
    }

    private void back() {
        promise(24, "All of that becomes as an IMAGE has it: PURSE.");
        SpringPawn x = Whole.valley();
        x.keep(0);
        due.is("back at once", x.back(0), x.now(0));
        due.is("twice", x.back(0), x.now(0));
        SpringPawn y = Whole.valley();
        y.keep(0);
        Whole.same(due, "nothing changes by that", x, y);
        SpringPawn z = Due.of("s9 1;c1 1 1;p1;i1;l1;");
        years(z, 11);
        z.keep(1);
        z.pawns(0, 2);
        z.year();
        due.is("back", z.back(1), 11);
        due.row("as it was", Due.now(z), 11, 11, 0, 0, 1, 0, 0);
        due.is("ten may be undone", z.count(7), 10);
        due.row("one by one", row(11, i -> z.undo()), 9, 8, 7, 6, 5, 4, 3, 2, 1, 0, STATE);
        due.is("year", z.now(1), 1);
        due.is("back from there", z.back(1), 11);
        z.year();
        due.is("ten at most", z.count(7), 10);
        due.is("the image is not changed by that", z.back(1), 11);
        due.is("nor its years", z.now(1), 11);
    }

    private void backBad() {
        promise(24, "BAD;");
        SpringPawn x = Due.of("s9 9;");
        due.all("none is kept", BAD, x.back(-1), x.back(2));
        x.keep(0);
        x.keep(1);
        range("back", 0, 1, BAD, image -> x.back(image));
    }

    private void backState() {
        promise(24, "STATE: none was kept.");
        SpringPawn x = Due.of("s9 9;");
        due.all("neither", STATE, x.back(0), x.back(1));
        x.keep(0);
        due.row("the first", new long[] {x.back(0), x.back(1)}, 0, STATE);
        x.keep(1);
        due.row("both", new long[] {x.back(0), x.back(1)}, 0, 0);
        Due.read(x, "s1 1;q");
        due.row("a text with a fault", new long[] {x.back(0), x.back(1)}, 0, 0);
        x.clear();
        x.valley();
        due.all("read anew", STATE, x.back(0), x.back(1));
        SpringPawn y = Due.of("s9 9;");
        y.keep(1);
        due.row("the second", new long[] {y.back(0), y.back(1)}, STATE, 0);
        due.all("a new object", STATE, new SpringPawn().back(0), new SpringPawn().back(1));
    }

    private void count() {
        promise(25, "0 DAYS, 1 SEASONS, 2 CROPS, 3 PRICE, 4 INTEREST, 5 LAPSE, 6 TOLD, 7 how many may be UNDONE, 8 bytes of THE TEXT.");
        due.row("a new object", Due.counts(new SpringPawn()), 0, 0, 0, 2, 3, 9, 0, 0, 0);
        SpringPawn x = Due.of("s9 1;s9 1;s9 1;s2 1;s1 1;c1 1 1;c1 1 1;c1 1 1;c1 1 1;p9;i5;l9;");
        for (int i = 0; i < 7; i++) {
            x.tells(0, 0);
        }
        years(x, 11);
        Due.type(x, "s".repeat(151));
        due.row("the most", Due.counts(x), 30, 5, 4, 9, 5, 9, 6, 10, 150);
        x.forget();
        x.undo();
        x.clear();
        due.row("less", Due.counts(x), 30, 5, 4, 9, 5, 9, 0, 9, 0);
        due.row("the least", Due.counts(Due.of("s1 0;c1 0 0;p1;i0;l1;")), 1, 1, 1, 1, 0, 1, 0, 0, 0);
    }

    private void countBad() {
        promise(25, "BAD.");
        SpringPawn x = Whole.valley();
        range("count", 0, 8, BAD, what -> x.count(what));
        range("count of a new object", 0, 8, BAD, what -> new SpringPawn().count(what));
    }

    private void trace() {
        promise(26, "THE TRACE.");
        SpringPawn x = Due.of("s1 1;c1 1 1;");
        due.is("at first", x.trace(), 0);
        x.mark(0, 0);
        due.is("one", x.trace(), 1);
        due.is("asked twice", x.trace(), 1);
        x.mark(-1, 0);
        x.mark(0, 1);
        due.is("refused", x.trace(), 1);
        x.mark(3, 0);
        x.keep(0);
        x.year();
        x.undo();
        x.back(0);
        due.is("neither undone nor in an image", x.trace(), 1012);
        due.is("a new object", new SpringPawn().trace(), 0);
    }
}
