/** The sentences of Terms 2: days, crops, loans, years, and what is undone. */
final class LoanEdges extends Edges {
    LoanEdges(Due due) {
        super(due);
    }

    private void terms(String words) {
        due.sentence("Terms 2", words);
    }

    @Override
    void run() {
        howADayIs();
        asManyDays();
        whatIsNotInBetween();
        leastGiftOrMore();
        lastOfTheFirst();
        harvest();
        purse();
        fourLoans();
        allIn();
        lowestFree();
        priceForEachGift();
        ageIsZero();
        redeemed();
        years();
        harvestComesFirst();
        nextOneThatIsIn();
        ifThereAreSoMany();
        lapse();
        undone();
    }

    private void howADayIs() {
        terms("A DAY is IN (all are at first), OUT by a LOAN, or LAPSED.");
        SpringPawn x = Due.of("s9 1;s9 1;s9 1;s3 1;i0;l1;");
        due.row("all are IN at first", row(30, d -> x.day(d, 2)), new long[30]);
        x.pawns(0, 1);
        x.pawns(29, 1);
        due.row("the first, the next, the last", row(3, i -> x.day(i == 2 ? 29 : i, 2)), 1, 0, 1);
        x.year();
        due.row("the first, the next, the last", row(3, i -> x.day(i == 2 ? 29 : i, 2)), 2, 0, 2);
        due.row("bits of DAYS OUT, of LAPSED", new long[] {x.now(2), x.now(3)}, 0, 1 | 1 << 29);
    }

    private void asManyDays() {
        terms("A CROP ripens, if there are as many DAYS that are IN, one behind another");
        for (int days = 1; days <= 9; days++) {
            for (int needs = 1; needs <= 9; needs++) {
                SpringPawn x = Due.of("s" + days + " 5;c" + needs + " 5 1;");
                due.is(days + " days, needs " + needs, x.crop(0, 3), needs <= days ? 1 : 0);
                due.is(days + " days, needs " + needs + ", on", x.crop(0, 4), needs <= days ? needs - 1 : NONE);
            }
        }
        due.is("no days at all", Due.of("c1 0 1;").crop(0, 3), 0);
        due.is("the last days", Due.of("s9 0;s9 0;s9 0;s3 9;c3 9 1;").crop(0, 4), 29);
        due.is("not from the last day on to day 0", Due.of("s2 9;s1 0;s2 9;c3 9 1;").crop(0, 4), NONE);
        SpringPawn y = Due.of("s4 5;c3 5 1;i0;");
        y.pawns(1, 1);
        due.is("just as many are IN", y.crop(0, 4), 3);
        y.pawns(3, 1);
        due.is("one less", y.crop(0, 4), NONE);
    }

    private void whatIsNotInBetween() {
        terms("(what is not IN between them does not matter)");
        SpringPawn x = Due.of("s1 5;s9 0;s1 5;c2 5 1;i0;l1;");
        due.is("poor days that are IN between", x.crop(0, 4), NONE);
        x.pawns(1, 8);
        due.is("one is IN yet", x.crop(0, 4), NONE);
        x.pawns(9, 1);
        due.is("all are OUT", x.crop(0, 4), 10);
        x.year();
        due.is("all are LAPSED", x.crop(0, 4), 10);
        SpringPawn y = Due.of("s3 5;c2 5 1;");
        y.pawns(1, 1);
        due.is("a rich day that is OUT between", y.crop(0, 4), 2);
        SpringPawn z = Due.of("s2 5;c2 5 1;");
        z.pawns(1, 1);
        due.is("a day that is OUT is none of them", z.crop(0, 4), NONE);
    }

    private void leastGiftOrMore() {
        terms("each of LEAST GIFT or more");
        for (int gift = 0; gift <= 9; gift++) {
            for (int least = 0; least <= 9; least++) {
                SpringPawn x = Due.of("s2 " + gift + ";c2 " + least + " 1;");
                due.is("gift " + gift + ", least " + least, x.crop(0, 3), gift >= least ? 1 : 0);
            }
        }
        due.is("one day is poorer", Due.of("s2 5;s1 4;s2 5;c3 5 1;").crop(0, 3), 0);
        due.is("the first is poorer", Due.of("s1 4;s3 5;c3 5 1;").crop(0, 4), 3);
        due.is("richer ones do", Due.of("s1 9;s1 5;s1 9;c3 5 1;").crop(0, 4), 2);
    }

    private void lastOfTheFirst() {
        terms("on the last of the first such.");
        due.is("of many days", Due.of("s9 5;c3 5 1;").crop(0, 4), 2);
        due.is("of two rows", Due.of("s1 0;s3 5;s1 0;s4 5;c3 5 1;").crop(0, 4), 3);
        due.is("the first row is too short", Due.of("s1 0;s2 5;s1 0;s4 5;c3 5 1;").crop(0, 4), 6);
        due.is("needs one day", Due.of("s9 5;c1 5 1;").crop(0, 4), 0);
        SpringPawn x = Due.of("s9 5;c3 5 1;");
        x.pawns(0, 4);
        due.is("behind what is OUT", x.crop(0, 4), 6);
    }

    private void harvest() {
        terms("HARVEST: WORTH of all CROPS that ripen, together.");
        due.is("no crops", Due.of("s9 9;").now(4), 0);
        due.is("none ripens", Due.of("s9 8;c1 9 99;").now(4), 0);
        due.is("all four, the most", Due.of("s1 9;c1 9 99;c1 9 99;c1 9 99;c1 9 99;").now(4), 396);
        due.is("one of no worth", Due.of("s1 9;c1 9 0;").now(4), 0);
        due.is("three of four", Due.of("s2 9;c1 9 1;c2 9 20;c3 9 40;c1 0 50;").now(4), 71);
    }

    private void purse() {
        terms("PURSE: coins (0 at first).");
        due.is("new", new SpringPawn().now(0), 0);
        due.is("a valley", Due.of("s9 9;c1 0 99;").now(0), 0);
    }

    private void fourLoans() {
        terms("LOANS 0 .. 3, free at first.");
        SpringPawn x = Due.of("s9 1;i0;");
        due.row("all are free", row(4, l -> x.loan(l, 0)), NONE, NONE, NONE, NONE);
        due.all("no others", BAD, x.loan(-1, 0), x.loan(4, 0));
        for (int l = 0; l < 4; l++) {
            due.is("pawned", x.pawns(l, 1), 2);
            due.is("by loan", x.day(l, 3), l);
        }
        due.is("no fifth", x.pawns(4, 1), STATE);
    }

    private void allIn() {
        terms("PAWNED: n DAYS from a DAY on, all IN");
        SpringPawn x = Due.of("s9 1;s9 1;s9 1;s3 1;i0;l1;p1;");
        due.is("up to the last day", x.pawns(21, 9), 9);
        due.is("which days", x.loan(0, 0), bits(21, 9));
        due.is("one behind the last", x.pawns(29, 2), STATE);
        x.undo();
        due.is("behind the last, though all there are IN", x.pawns(22, 9), STATE);
        due.is("the last alone", x.pawns(29, 1), 1);
        x.year();
        due.is("the last is LAPSED", x.pawns(21, 9), STATE);
        due.is("up to it", x.pawns(21, 8), 8);
        x.pawns(4, 1);
        due.is("its last day is OUT", x.pawns(0, 5), STATE);
        due.is("its first day is OUT", x.pawns(4, 5), STATE);
        due.is("one between is OUT", x.pawns(0, 9), STATE);
        due.is("just ahead of it", x.pawns(0, 4), 4);
        due.is("just behind it", x.pawns(5, 9), 9);
    }

    private void lowestFree() {
        terms("by the lowest LOAN that is free");
        SpringPawn x = Due.of("s9 1;i0;");
        for (int l = 0; l < 4; l++) {
            x.pawns(l, 1);
        }
        x.redeems(3);
        x.redeems(1);
        x.pawns(5, 1);
        due.is("loan 1", x.day(5, 3), 1);
        x.pawns(6, 1);
        due.is("loan 3, the last that is free", x.day(6, 3), 3);
        x.redeems(0);
        x.redeems(2);
        x.pawns(7, 1);
        due.is("loan 0", x.day(7, 3), 0);
    }

    private void priceForEachGift() {
        terms("it LENT PRICE for each GIFT of them, to PURSE");
        SpringPawn x = Due.of("s9 0;s9 9;s1 4;p9;");
        due.is("no gifts", x.pawns(0, 9), 0);
        due.is("no coins", x.now(0), 0);
        due.is("the most there may be", x.pawns(9, 9), 729);
        due.is("the purse", x.now(0), 729);
        due.is("one day", x.pawns(18, 1), 36);
        due.row("the purse, what is owed", new long[] {x.now(0), x.now(6)}, 765, 765);
        due.is("the least price", Due.of("s1 1;p1;").pawns(0, 1), 1);
        due.is("the price that is not told", Due.of("s1 1;").pawns(0, 1), 2);
    }

    private void ageIsZero() {
        terms("its AGE is 0.");
        SpringPawn x = Due.of("s9 1;i0;");
        x.pawns(0, 1);
        due.is("new", x.loan(0, 2), 0);
        years(x, 5);
        due.is("five years on", x.loan(0, 2), 5);
        x.redeems(0);
        x.pawns(0, 1);
        due.is("pawned again", x.loan(0, 2), 0);
    }

    private void redeemed() {
        terms("REDEEMED: PURSE has what a LOAN LENT less; all its DAYS are IN, it is free.");
        SpringPawn x = Due.of("s9 1;p1;i5;");
        x.pawns(0, 2);
        due.is("the purse has just as much", x.redeems(0), 0);
        due.row("all are IN", row(9, d -> x.day(d, 2)), new long[9]);
        due.is("free", x.loan(0, 0), NONE);
        x.pawns(0, 2);
        x.year();
        due.is("with its interest", x.now(2), bits(0, 7));
        due.is("it costs what it LENT, not more", x.redeems(0), 0);
        due.is("its interest is IN again", x.now(2), 0);
        due.is("nothing was LENT: it costs nothing", redeemOfNothing(), 0);
    }

    private static int redeemOfNothing() {
        SpringPawn x = Due.of("s9 0;");
        x.pawns(0, 9);
        return x.redeems(0);
    }

    private void years() {
        terms("A YEAR goes by (99 at most; counted)");
        SpringPawn x = Due.of("s1 1;c1 1 1;");
        for (int i = 1; i <= 99; i++) {
            due.is("a year", x.year(), 1);
            due.is("counted", x.now(1), i);
        }
        due.all("there were 99", STATE, x.year(), x.year());
        due.row("the purse, the years", new long[] {x.now(0), x.now(1)}, 99, 99);
        x.undo();
        due.is("the 99th again", x.year(), 1);
        due.is("no more", x.year(), STATE);
    }

    private void harvestComesFirst() {
        terms("HARVEST comes to PURSE; then each LOAN, by numbers, takes INTEREST");
        SpringPawn x = Due.of("s4 1;c3 1 50;i1;p1;");
        x.pawns(0, 1);
        due.is("the interest is IN yet", x.year(), 50);
        due.row("then it is OUT", new long[] {x.now(0), x.now(2), x.now(4)}, 51, 3, 0);
        due.is("no harvest then", x.year(), 0);
        SpringPawn y = Due.of("s5 1;i1;");
        y.pawns(1, 1);
        y.pawns(0, 1);
        y.pawns(3, 1);
        y.year();
        due.row("loans 0, 1, 2: the lowest has the next day", row(3, l -> y.loan(l, 0)), 2 | 4, 1 | 16, 8);
    }

    private void nextOneThatIsIn() {
        terms("as many DAYS more, each the next one that is IN behind the last of its DAYS");
        for (int interest = 0; interest <= 5; interest++) {
            SpringPawn x = Due.of("s9 1;i" + interest + ";");
            x.pawns(1, 2);
            x.year();
            due.is("interest " + interest, x.loan(0, 0), bits(1, 2 + interest));
        }
        SpringPawn y = Due.of("s9 1;i1;l2;");
        y.pawns(2, 2);
        years(y, 2);
        due.is("LAPSED", y.now(3), bits(2, 4));
        y.pawns(1, 1);
        y.pawns(6, 1);
        y.year();
        due.row("over what is LAPSED, and what is OUT", row(2, l -> y.loan(l, 0)), 2 | 128, 64 | 256);
    }

    private void ifThereAreSoMany() {
        terms("(if there are so many; it does not go on from DAY 0)");
        for (int left = 0; left <= 6; left++) {
            SpringPawn x = Due.of("s9 1;i5;");
            x.pawns(8 - left, 1);
            x.year();
            due.is(left + " days are left", x.loan(0, 0), bits(8 - left, 1 + Math.min(5, left)));
            due.is("the days ahead of it", x.now(2) & bits(0, 8 - left), 0);
        }
        SpringPawn y = Due.of("s9 1;s9 1;s9 1;s3 1;i5;");
        y.pawns(29, 1);
        years(y, 3);
        due.is("behind day 29 there is none", y.loan(0, 0), 1 << 29);
        due.is("its age goes on all the same", y.loan(0, 2), 3);
    }

    private void lapse() {
        terms("its AGE is one more; if that is LAPSE then, its DAYS are LAPSED for ever, it is free.");
        for (int lapse = 1; lapse <= 9; lapse++) {
            SpringPawn x = Due.of("s9 1;s9 1;i1;l" + lapse + ";");
            x.pawns(0, 1);
            for (int age = 0; age < lapse; age++) {
                due.is("lapse " + lapse + ", age", x.loan(0, 2), age);
                x.year();
            }
            due.row("lapse " + lapse + ": the loan", Due.loan(x, 0), NONE, NONE, NONE);
            due.row("DAYS OUT, LAPSED", new long[] {x.now(2), x.now(3)}, 0, bits(0, 1 + lapse));
            due.is("owed", x.now(6), 0);
            years(x, 12);
            due.is("for ever", x.now(3), bits(0, 1 + lapse));
            due.is("no loan has it", x.day(0, 3), NONE);
            due.is("it can't be redeemed", x.redeems(0), STATE);
        }
    }

    private void undone() {
        terms("UNDONE: the latest PAWNED, REDEEMED, YEAR (10 are known, older ones are lost): all is as ahead of it.");
        for (int deeds = 0; deeds <= 12; deeds++) {
            SpringPawn x = Due.of("s1 1;c1 1 1;");
            years(x, deeds);
            int known = Math.min(10, deeds);
            due.is(deeds + " deeds: known", x.count(7), known);
            for (int i = known - 1; i >= 0; i--) {
                due.is(deeds + " deeds: undo", x.undo(), i);
            }
            due.is(deeds + " deeds: no more", x.undo(), STATE);
            due.is("back to year", x.now(1), deeds - known);
        }
        SpringPawn y = Due.of("s9 1;p1;i1;l1;");
        y.pawns(0, 2);
        y.redeems(0);
        y.pawns(4, 1);
        y.year();
        due.row("ahead of it all", Due.now(y), 1, 1, 0, bits(4, 2), 0, 2, 0);
        y.undo();
        due.row("a year undone: not LAPSED", Due.now(y), 1, 0, 16, 0, 0, 1, 1);
        y.undo();
        due.row("pawned undone", Due.now(y), 0, 0, 0, 0, 0, 0, 0);
        y.undo();
        due.row("redeemed undone", Due.now(y), 2, 0, 3, 0, 0, 2, 2);
        due.row("its loan", Due.loan(y, 0), 3, 2, 0);
        due.is("a refused one is none", y.redeems(1), STATE);
        due.is("the last", y.undo(), 0);
        due.row("as at first", Due.now(y), 0, 0, 0, 0, 0, 0, 0);
        SpringPawn z = Due.of("s9 1;i1;l3;");
        z.pawns(0, 1);
        years(z, 2);
        z.undo();
        due.row("a year undone: DAYS, LENT and AGE", Due.loan(z, 0), 3, 2, 1);
        years(z, 2);
        due.row("it lapses in its third year", new long[] {z.now(3), z.loan(0, 2)}, 15, NONE);
        z.undo();
        due.row("that undone", Due.loan(z, 0), 7, 2, 2);
    }
}
