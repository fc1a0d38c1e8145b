import java.util.function.Consumer;
import java.util.function.ToLongFunction;

/** What Terms 4 says of refusals: which of them goes first, and that nothing changes. */
final class RefusalEdges extends Edges {
    private static final int FAR = Integer.MAX_VALUE;

    RefusalEdges(Due due) {
        super(due);
    }

    @Override
    void run() {
        due.sentence("Terms 4", "Refused, and nothing changes, the first of these:");
        anyValley();
        fullText();
        fullOfTold();
        allLoansOut();
        after99Years();
        nothingDone();
        due.sentence("Terms 4", "BAD (a number is not as told, or there is no such thing)");
        bad();
        due.sentence("Terms 4", "STATE (as told)");
        state();
        due.sentence("Terms 4", "FULL.");
        full();
    }

    /** A refused call, on one of two objects of which the same was asked: they are alike behind it. */
    private void refused(String call, long want, Consumer<SpringPawn> ahead, ToLongFunction<SpringPawn> calls) {
        SpringPawn x = Whole.valley();
        SpringPawn y = Whole.valley();
        ahead.accept(x);
        ahead.accept(y);
        due.is(call, calls.applyAsLong(x), want);
        Whole.same(due, call, x, y);
    }

    private static void asItIs(SpringPawn x) {
    }

    private void anyValley() {
        refused("type(-1)", BAD, RefusalEdges::asItIs, x -> x.type(-1));
        refused("type(256)", BAD, RefusalEdges::asItIs, x -> x.type(256));
        refused("valley() with a fault", -10 - 5, RefusalEdges::asItIs, x -> x.valley());
        refused("pawns(9, 1)", BAD, RefusalEdges::asItIs, x -> x.pawns(9, 1));
        refused("pawns(0, 0)", BAD, RefusalEdges::asItIs, x -> x.pawns(0, 0));
        refused("pawns(0, 10)", BAD, RefusalEdges::asItIs, x -> x.pawns(0, 10));
        refused("pawns of a day that is OUT", STATE, RefusalEdges::asItIs, x -> x.pawns(3, 2));
        refused("pawns of a day that is LAPSED", STATE, RefusalEdges::asItIs, x -> x.pawns(2, 2));
        refused("pawns behind the last day", STATE, x -> x.redeems(1), x -> x.pawns(8, 2));
        refused("redeems(4)", BAD, RefusalEdges::asItIs, x -> x.redeems(4));
        refused("redeems of a free loan", STATE, RefusalEdges::asItIs, x -> x.redeems(3));
        refused("tells(2, 0)", BAD, RefusalEdges::asItIs, x -> x.tells(2, 0));
        refused("tells(0, 2)", BAD, RefusalEdges::asItIs, x -> x.tells(0, 2));
        refused("mark(6, 0)", NO, RefusalEdges::asItIs, x -> x.mark(6, 0));
        refused("mark(0, 2)", NO, RefusalEdges::asItIs, x -> x.mark(0, 2));
        refused("keep(2)", BAD, RefusalEdges::asItIs, x -> x.keep(2));
        refused("back(2)", BAD, RefusalEdges::asItIs, x -> x.back(2));
        refused("back of what was not kept", STATE, RefusalEdges::asItIs, x -> x.back(0));
        refused("day(9, 0)", BAD, RefusalEdges::asItIs, x -> x.day(9, 0));
        refused("crop(2, 0)", BAD, RefusalEdges::asItIs, x -> x.crop(2, 0));
        refused("loan(4, 0)", BAD, RefusalEdges::asItIs, x -> x.loan(4, 0));
        refused("now(7)", BAD, RefusalEdges::asItIs, x -> x.now(7));
        refused("lends(9, 1)", BAD, RefusalEdges::asItIs, x -> x.lends(9, 1));
        refused("cheap(0, 0)", BAD, RefusalEdges::asItIs, x -> x.cheap(0, 0));
        refused("freeing(2)", BAD, RefusalEdges::asItIs, x -> x.freeing(2));
        refused("rich(10000)", BAD, RefusalEdges::asItIs, x -> x.rich(10000));
        refused("fits(3)", BAD, RefusalEdges::asItIs, x -> x.fits(3));
        refused("odds(11, 0, 0)", BAD, RefusalEdges::asItIs, x -> x.odds(11, 0, 0));
        refused("count(9)", BAD, RefusalEdges::asItIs, x -> x.count(9));
    }

    private void fullText() {
        Consumer<SpringPawn> fill = x -> Due.type(x, " ".repeat(150 - x.count(8)));
        refused("type into a full text", FULL, fill, x -> x.type('s'));
        refused("type of no byte into a full text", BAD, fill, x -> x.type(256));
    }

    private void fullOfTold() {
        Consumer<SpringPawn> fill = x -> {
            for (int i = x.count(6); i < 6; i++) {
                x.tells(0, 1);
            }
        };
        refused("a seventh is told", FULL, fill, x -> x.tells(0, 0));
        refused("a seventh of no crop", BAD, fill, x -> x.tells(2, 0));
        refused("a seventh that is neither", BAD, fill, x -> x.tells(0, 2));
    }

    private void allLoansOut() {
        Consumer<SpringPawn> all = x -> {
            x.pawns(3, 1);
            x.pawns(5, 1);
        };
        refused("no loan is free", STATE, all, x -> x.pawns(6, 1));
        refused("no loan is free, no such day", BAD, all, x -> x.pawns(9, 1));
        refused("no loan is free, no such n", BAD, all, x -> x.pawns(6, 10));
    }

    private void after99Years() {
        refused("the hundredth year", STATE, x -> years(x, 97), x -> x.year());
    }

    private void nothingDone() {
        Consumer<SpringPawn> undo = x -> {
            for (int i = x.count(7); i > 0; i--) {
                x.undo();
            }
        };
        refused("undo of nothing", STATE, undo, x -> x.undo());
    }

    private void bad() {
        SpringPawn x = Whole.valley();
        due.all("no such thing", BAD, x.day(9, 0), x.crop(2, 0), x.loan(4, 0), x.pawns(9, 1), x.redeems(4), x.lends(9, 1),
            x.tells(2, 0), x.keep(2), x.back(2));
        due.all("a number is not as told", BAD, x.type(256), x.pawns(0, 10), x.lends(0, 10), x.cheap(1000, 0), x.rich(10000),
            x.tells(0, 2), x.odds(11, 0, 0), x.odds(0, 1000, 0));
        due.all("no such what", BAD, x.day(0, 4), x.crop(0, 5), x.loan(0, 3), x.now(7), x.cheap(1, 3), x.freeing(2), x.fits(3),
            x.odds(0, 0, 2), x.count(9));
        due.all("both numbers", BAD, x.day(9, 4), x.crop(2, 5), x.loan(4, 3), x.pawns(9, 10), x.lends(-1, 0), x.cheap(0, -1),
            x.tells(2, 2), x.odds(11, 1000, 2), x.odds(FAR, FAR, FAR));
    }

    private void state() {
        SpringPawn x = Whole.valley();
        x.pawns(3, 1);
        x.pawns(5, 1);
        due.all("BAD goes first", BAD, x.pawns(9, 1), x.pawns(4, 0), x.pawns(4, 10), x.redeems(-1), x.redeems(4), x.back(-1),
            x.back(2));
        due.all("STATE then", STATE, x.pawns(4, 1), x.pawns(4, 9), x.back(0));
        due.is("a free loan's what that is not there", Due.of("s1 1;").loan(0, 3), BAD);
        due.is("NONE is for a free loan", Due.of("s1 1;").loan(0, 2), NONE);
    }

    private void full() {
        SpringPawn x = Whole.valley();
        Due.type(x, " ".repeat(144));
        for (int i = 2; i < 6; i++) {
            x.tells(0, 1);
        }
        due.all("BAD goes first", BAD, x.type(-1), x.type(256), x.tells(-1, 0), x.tells(2, 1), x.tells(0, -1), x.tells(1, 2));
        due.all("FULL then", FULL, x.type(0), x.type(255), x.tells(0, 0), x.tells(1, 1));
        due.is("it is not full any more", x.clear(), 150);
        due.is("a byte", x.type('s'), 1);
        due.is("forgotten", x.forget(), 6);
        due.is("told", x.tells(1, 1), 1);
    }
}
