/** The sentences of promises 1 to 7: a new object, the text, the valley, days, crops, loans. */
final class ValleyCallEdges extends Edges {
    ValleyCallEdges(Due due) {
        super(due);
    }

    private void promise(int number, String words) {
        due.sentence("Promise " + number, words);
    }

    @Override
    void run() {
        newObject();
        type();
        typeRefused();
        clear();
        valley();
        valleyFault();
        day();
        dayBad();
        crop();
        cropBad();
        loan();
        loanBad();
    }

    private void newObject() {
        promise(1, "As told; no SEASONS, no CROPS.");
        SpringPawn x = new SpringPawn();
        due.row("counts", Due.counts(x), 0, 0, 0, 2, 3, 9, 0, 0, 0);
        due.row("now", Due.now(x), 0, 0, 0, 0, 0, 0, 0);
        due.row("loans are free", row(4, l -> x.loan(l, 0)), NONE, NONE, NONE, NONE);
        due.all("no day, no crop", BAD, x.day(0, 0), x.crop(0, 0), x.pawns(0, 1), x.lends(0, 1), x.tells(0, 0));
        due.all("nothing done, nothing kept", STATE, x.undo(), x.redeems(0), x.back(0), x.back(1));
        due.all("nothing found", NONE, x.cheap(1, 0), x.rich(1), x.fits(1), x.fits(2));
        due.all("nothing there", 0, x.clear(), x.forget(), x.freeing(0), x.freeing(1), x.rich(0), x.bare(), x.fits(0), x.trace());
        due.is("no mark", x.mark(0, 0), NO);
        due.is("a year may go by", x.year(), 0);
        due.is("it may be kept", x.keep(0), 0);
        SpringPawn y = new SpringPawn();
        due.is("another one has nothing of it", y.count(7), 0);
    }

    private void type() {
        promise(2, "A byte (0 .. 255) comes to THE TEXT: how many it has.");
        SpringPawn x = new SpringPawn();
        for (int i = 1; i <= 150; i++) {
            due.is("byte " + i, x.type(i == 1 ? 0 : 255), i);
        }
        due.is("how many", x.count(8), 150);
        SpringPawn y = new SpringPawn();
        for (int b = 0; b <= 255; b++) {
            due.is("the byte " + b, y.type(b), 1);
            y.clear();
        }
    }

    private void typeRefused() {
        promise(2, "BAD; FULL.");
        SpringPawn x = new SpringPawn();
        range("type", 0, 255, BAD, b -> x.type(b));
        due.is("only what is a byte came to it", x.count(8), 4);
        Due.type(x, " ".repeat(145));
        due.is("149 bytes", x.count(8), 149);
        due.is("the last one", x.type(' '), 150);
        due.all("full", FULL, x.type(' '), x.type(0), x.type(255));
        due.all("BAD goes first", BAD, x.type(-1), x.type(256));
        due.is("how many", x.count(8), 150);
        x.valley();
        due.is("a text with a fault stays full", x.type(' '), FULL);
        x.clear();
        due.is("cleared, it is not full", x.type(' '), 1);
        Due.type(x, " ".repeat(149));
        due.is("read", x.valley(), 0);
        due.is("read, it is not full", x.type(' '), 1);
    }

    private void clear() {
        promise(3, "THE TEXT is empty: how many bytes it had.");
        SpringPawn x = Whole.valley();
        due.is("some", x.clear(), 6);
        due.is("none", x.clear(), 0);
        due.is("how many", x.count(8), 0);
        Due.type(x, " ".repeat(150));
        x.type(' ');
        due.is("as many as there may be", x.clear(), 150);
        due.is("it begins anew", x.type('s'), 1);
        due.is("nothing of the older text is read", x.valley(), -10 - 1);
        SpringPawn y = Whole.valley();
        y.clear();
        SpringPawn z = Whole.valley();
        z.clear();
        z.clear();
        Whole.same(due, "nothing else changes", y, z);
    }

    private void valley() {
        promise(4, "THE TEXT tells all, and is empty then: how many ITEMS.");
        accepted("", 0);
        accepted("s1 1;", 1);
        String most = "s9 9;s9 9;s9 9;s2 9;s1 9;c9 9 99;c9 9 99;c9 9 99;c9 9 99;p9;i5;l9;";
        SpringPawn x = accepted(most, 12);
        due.row("all that there may be", Due.counts(x), 30, 5, 4, 9, 5, 9, 0, 0, 0);
        due.is("the text is empty", x.clear(), 0);
        due.is("an empty text tells that there is nothing", x.valley(), 0);
        due.row("there is nothing", Due.counts(x), 0, 0, 0, 2, 3, 9, 0, 0, 0);
        due.is("read anew", Due.read(x, most), 12);
        due.is("a shorter one", Due.read(x, "s1 0;"), 1);
        due.row("nothing of the longer one is left", Due.counts(x), 1, 1, 0, 2, 3, 9, 0, 0, 0);
        due.row("day 0", Due.day(x, 0), 0, 0, 0, NONE);
    }

    private void valleyFault() {
        promise(4, "-10 less FAULT: nothing changes.");
        faultAt("x", 0);
        faultAt(" ".repeat(149) + "x", 149);
        faultAt(" ".repeat(149) + "s", 150);
        SpringPawn x = Whole.valley();
        due.is("a fault", x.valley(), -10 - 5);
        due.is("the same again", x.valley(), -10 - 5);
        Whole.same(due, "nothing changes", x, Whole.valley());
        SpringPawn y = new SpringPawn();
        due.is("ends too early", Due.read(y, "s1 1"), -10 - 4);
        due.is("the text goes on", y.type(';'), 5);
        due.is("then it is read", y.valley(), 1);
    }

    private void day() {
        promise(5, "Of a DAY: 0 its SEASON, 1 GIFT, 2 how it is (0 IN, 1 OUT, 2 LAPSED), 3 the LOAN it is OUT by (NONE).");
        SpringPawn x = Due.of("s9 0;s9 1;s9 2;s2 3;s1 9;i0;l2;");
        due.row("the first", Due.day(x, 0), 0, 0, 0, NONE);
        due.row("the last", Due.day(x, 29), 4, 9, 0, NONE);
        x.pawns(29, 1);
        x.year();
        x.pawns(0, 1);
        x.pawns(2, 1);
        x.pawns(4, 1);
        due.row("the last is OUT by loan 0", Due.day(x, 29), 4, 9, 1, 0);
        due.row("OUT by loan 3", Due.day(x, 4), 0, 0, 1, 3);
        due.row("the one behind it is IN", Due.day(x, 5), 0, 0, 0, NONE);
        x.year();
        due.row("the last is LAPSED", Due.day(x, 29), 4, 9, 2, NONE);
        due.row("the first is OUT yet", Due.day(x, 0), 0, 0, 1, 1);
        x.redeems(1);
        due.row("IN again", Due.day(x, 0), 0, 0, 0, NONE);
    }

    private void dayBad() {
        promise(5, "BAD.");
        SpringPawn x = Due.of("s9 1;s9 1;s9 1;s3 1;");
        for (int what = 0; what <= 3; what++) {
            int w = what;
            range("day, what " + w, 0, 29, BAD, d -> x.day(d, w));
        }
        range("day 0, what", 0, 3, BAD, what -> x.day(0, what));
        range("day 29, what", 0, 3, BAD, what -> x.day(29, what));
        range("one day", 0, 0, BAD, d -> Due.of("s1 1;").day(d, 0));
        due.all("no days", BAD, new SpringPawn().day(0, 0), new SpringPawn().day(0, 3));
    }

    private void crop() {
        promise(6, "Of a CROP: 0 NEEDS, 1 LEAST GIFT, 2 WORTH, 3 whether it ripens, 4 on which DAY (NONE).");
        SpringPawn x = Due.of("s9 9;s9 0;s9 0;s3 9;c1 0 0;c9 9 99;c3 1 50;c9 0 1;i0;");
        due.row("the least", Due.crop(x, 0), 1, 0, 0, 1, 0);
        due.row("the most", Due.crop(x, 1), 9, 9, 99, 1, 8);
        x.pawns(0, 1);
        due.row("one day less", Due.crop(x, 1), 9, 9, 99, 0, NONE);
        x.pawns(1, 8);
        due.row("on the last day", Due.crop(x, 2), 3, 1, 50, 1, 29);
        x.pawns(29, 1);
        due.row("not any more", Due.crop(x, 2), 3, 1, 50, 0, NONE);
        due.row("on", Due.crop(x, 3), 9, 0, 1, 1, 17);
    }

    private void cropBad() {
        promise(6, "BAD.");
        SpringPawn x = Due.of("s1 1;c1 1 1;c1 1 1;c1 1 1;c1 1 1;");
        for (int what = 0; what <= 4; what++) {
            int w = what;
            range("crop, what " + w, 0, 3, BAD, c -> x.crop(c, w));
        }
        range("crop 0, what", 0, 4, BAD, what -> x.crop(0, what));
        range("crop 3, what", 0, 4, BAD, what -> x.crop(3, what));
        range("one crop", 0, 0, BAD, c -> Due.of("c1 1 1;").crop(c, 0));
        due.all("no crops", BAD, new SpringPawn().crop(0, 0), new SpringPawn().crop(0, 4));
    }

    private void loan() {
        promise(7, "Of a LOAN: 0 its DAYS (bits), 1 what it LENT, 2 AGE; NONE: it is free.");
        SpringPawn x = Due.of("s9 9;s9 0;s9 0;s3 9;p9;i0;l2;");
        due.row("free", Due.loan(x, 0), NONE, NONE, NONE);
        x.pawns(0, 9);
        x.pawns(9, 9);
        x.pawns(18, 9);
        x.pawns(29, 1);
        due.row("the first days", Due.loan(x, 0), 511, 729, 0);
        due.row("days without gifts", Due.loan(x, 1), bits(9, 9), 0, 0);
        due.row("the last day", Due.loan(x, 3), 1 << 29, 81, 0);
        x.year();
        due.row("a year on", Due.loan(x, 3), 1 << 29, 81, 1);
        x.redeems(1);
        due.row("redeemed: free", Due.loan(x, 1), NONE, NONE, NONE);
        due.row("the others are not", Due.loan(x, 2), bits(18, 9), 0, 1);
        x.year();
        due.row("lapsed: free", Due.loan(x, 3), NONE, NONE, NONE);
    }

    private void loanBad() {
        promise(7, "BAD.");
        SpringPawn x = Due.of("s9 1;i0;");
        for (int what = 0; what <= 2; what++) {
            int w = what;
            range("loan, what " + w, 0, 3, BAD, l -> x.loan(l, w));
        }
        range("a free loan, what", 0, 2, BAD, what -> x.loan(0, what));
        x.pawns(0, 1);
        range("a loan, what", 0, 2, BAD, what -> x.loan(0, what));
    }
}
