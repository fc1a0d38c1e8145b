/** Promises 1 to 7 and 25: a new object, the text, the valley, days, crops, loans, counts. */
public final class ValleyTest {
    private static final int BAD = -1;
    private static final int FULL = -3;
    private static final int NONE = -9;
    private static final int[] OUTSIDE = {Integer.MIN_VALUE, -1000, -1, Integer.MAX_VALUE};
    private static final Due DUE = new Due();

    public static void main(String[] args) {
        newObject();
        typing();
        clearing();
        readingAll();
        readingNothing();
        readingAnew();
        faultsOfTokens();
        faultsOfItems();
        faultsOfNumbers();
        faultsChangeNothing();
        bytesBehindTheText();
        days();
        crops();
        gapsDoNotMatter();
        loans();
        counts();
        DUE.end();
    }

    private static void newObject() {
        SpringPawn x = new SpringPawn();
        DUE.row("new: count", Due.counts(x), 0, 0, 0, 2, 3, 9, 0, 0, 0);
        DUE.row("new: now", Due.now(x), 0, 0, 0, 0, 0, 0, 0);
        DUE.all("new: no days, no crops", BAD, x.day(0, 0), x.crop(0, 0), x.pawns(0, 1), x.lends(0, 1), x.tells(0, 1));
        DUE.all("new: all loans are free", NONE, x.loan(0, 0), x.loan(1, 1), x.loan(2, 2), x.loan(3, 0));
        DUE.all("new: no image, nothing to undo", -2, x.back(0), x.back(1), x.undo());
        DUE.is("new: mark", x.mark(0, 0), -1000000);
        DUE.is("new: trace", x.trace(), 0);
        DUE.all("new: fits", NONE, x.fits(1), x.fits(2));
    }

    private static void typing() {
        SpringPawn x = new SpringPawn();
        DUE.is("type(0)", x.type(0), 1);
        DUE.is("type(255)", x.type(255), 2);
        DUE.all("type beyond bytes", BAD, x.type(-1), x.type(256), x.type(Integer.MIN_VALUE), x.type(Integer.MAX_VALUE));
        DUE.is("count(8)", x.count(8), 2);
        for (int i = 3; i <= 150; i++) {
            DUE.is("type " + i, x.type(' '), i);
        }
        DUE.all("type into a full text", FULL, x.type(' '), x.type(0), x.type(255));
        DUE.all("BAD goes ahead of FULL", BAD, x.type(-1), x.type(256));
        DUE.is("count(8), full", x.count(8), 150);
    }

    private static void clearing() {
        SpringPawn x = Due.of("s 2 3;");
        DUE.is("clear, empty", x.clear(), 0);
        Due.type(x, "s 1");
        DUE.is("clear", x.clear(), 3);
        DUE.is("clear again", x.clear(), 0);
        DUE.is("count(8)", x.count(8), 0);
        DUE.is("clear leaves the valley", x.count(0), 2);
        DUE.is("type behind clear", x.type('s'), 1);
    }

    private static void readingAll() {
        SpringPawn x = new SpringPawn();
        DUE.is("valley", Due.read(x, "p 9;s 2 3;c 1 0 99;i 0;s 1 0;l 1;c 9 9 0;"), 7);
        DUE.row("all that was told", Due.counts(x), 3, 2, 2, 9, 0, 1, 0, 0, 0);
        DUE.is("blanks anywhere", Due.read(x, "  s  9   9  ;   c 9 9 99 ; "), 2);
        DUE.row("what is not told is as at first", Due.counts(x), 9, 1, 1, 2, 3, 9, 0, 0, 0);
        DUE.is("no blank where none is needed", Due.read(x, "s9 9;p1;i5;l9;"), 4);
        DUE.row("edges", Due.counts(x), 9, 1, 0, 1, 5, 9, 0, 0, 0);
        DUE.is("30 days, 5 seasons, 4 crops",
            Due.read(x, "s9 1;s9 2;s9 3;s2 4;s1 5;c1 0 0;c9 9 99;c1 0 0;c1 0 0;"), 9);
        DUE.row("the most there may be", Due.counts(x), 30, 5, 4, 2, 3, 9, 0, 0, 0);
        String full = "s1 1;" + " ".repeat(140) + "c1 1;";
        DUE.is("a text of 150 bytes that ends too early", Due.read(x, full), -10 - 149);
        x.clear();
        DUE.is("a text of 150 bytes", Due.read(x, "s1 1;" + " ".repeat(138) + "c1 1 1;"), 2);
    }

    private static void readingNothing() {
        SpringPawn x = Due.of("s3 3;c1 1 1;p3;");
        x.pawns(0, 2);
        DUE.is("a text without items", x.valley(), 0);
        DUE.row("it tells nothing", Due.counts(x), 0, 0, 0, 2, 3, 9, 0, 0, 0);
        DUE.row("it tells nothing: now", Due.now(x), 0, 0, 0, 0, 0, 0, 0);
        DUE.is("a text of blanks", Due.read(x, "   "), 0);
        DUE.is("it is empty then", x.count(8), 0);
    }

    private static void readingAnew() {
        SpringPawn x = Due.of("s9 9;c1 1 7;l1;");
        x.pawns(0, 2);
        x.year();
        x.pawns(5, 1);
        x.tells(0, 1);
        x.keep(0);
        x.keep(1);
        x.mark(0, 0);
        DUE.is("valley anew", Due.read(x, "s3 3;c1 1 7;"), 2);
        DUE.row("all IN, nothing in PURSE", Due.now(x), 0, 0, 0, 0, 7, 0, 0);
        DUE.row("nothing TOLD, nothing to be UNDONE", Due.counts(x), 3, 1, 1, 2, 3, 9, 0, 0, 0);
        DUE.all("images are gone", -2, x.back(0), x.back(1));
        DUE.all("loans are free", NONE, x.loan(0, 0), x.loan(1, 0));
        DUE.is("the trace stays", x.trace(), 1);
    }

    private static void fault(String text, int place) {
        SpringPawn x = new SpringPawn();
        DUE.is("valley of \"" + text + "\"", Due.read(x, text), -10 - place);
        DUE.is("the text stays", x.count(8), text.length());
    }

    private static void faultsOfTokens() {
        fault("S1 1;", 0);
        fault("s1 1;\t", 5);
        fault("s\u00001 1;", 1);
        fault("s1 1;\u00ff", 5);
        fault("s1,1;", 2);
        fault("s-1 1;", 1);
        fault("  ss 1 1;", 2);
        fault("sc1 1;", 0);
        fault("s 01 1;", 2);
        fault("s 00 1;", 2);
        fault("s 1 00;", 4);
        fault("c1 0 099;", 5);
        fault("c1 0 100;", 5);
        fault("c1 0 99999999999999999999;", 5);
        fault("c1 0 4294967296;", 5);
        fault("s1 1; 100", 6);
        fault("`", 0);
        fault("{", 0);
        fault("s1 /;", 3);
        fault("s1 :;", 3);
        fault("sa1 1;", 0);
        fault("sz1 1;", 0);
        fault("s1 1A", 4);
        fault("p1 100", 3);
        fault("99 1 1 1;", 0);
    }

    private static void faultsOfItems() {
        fault("a1;", 0);
        fault(";", 0);
        fault("7;", 0);
        fault("s1 1;;", 5);
        fault("s;", 1);
        fault("s1;", 2);
        fault("s1 1 1;", 5);
        fault("s1 1 s1 1;", 5);
        fault("s1s1;", 2);
        fault("c1 1;", 4);
        fault("c1 1 1 1;", 7);
        fault("p;", 1);
        fault("p1 1;", 3);
        fault("i;", 1);
        fault("l;", 1);
        fault("s", 1);
        fault("s   ", 4);
        fault("s1", 2);
        fault("s1 1", 4);
        fault("s1 1;c1 1 1", 11);
        fault("p2 ", 3);
        fault("p1;p1;", 3);
        fault("i1;p1; i1;", 7);
        fault("l1;s1 1;l1;", 8);
        fault("s1 1;s1 1;s1 1;s1 1;s1 1; s1 1;", 26);
        fault("c1 1 1;c1 1 1;c1 1 1;c1 1 1;c1 1 1;", 28);
        fault("s1 1;p1;p", 8);
        fault("p 0;A", 2);
    }

    private static void faultsOfNumbers() {
        fault("s0 1;", 1);
        fault("s10 1;", 1);
        fault("s1 10;", 3);
        fault("c0 1 1;", 1);
        fault("c10 1 1;", 1);
        fault("c1 10 1;", 3);
        fault("p0;", 1);
        fault("p10;", 1);
        fault("i6;", 1);
        fault("l0;", 1);
        fault("l10;", 1);
        fault("s9 1;s9 1;s9 1;s4 1;", 16);
        fault("s9 1;s9 1;s9 1;s3 1;s1 1;", 21);
        fault("s9 1;s9 1;s9 1;s3 1;s", 21);
        fault("s0", 1);
    }

    private static void faultsChangeNothing() {
        SpringPawn x = Due.of("s9 9;c1 1 7;p5;i1;l2;");
        x.pawns(2, 2);
        x.year();
        x.tells(0, 1);
        x.keep(0);
        DUE.is("valley with a fault", Due.read(x, "s1 1;c2 2 2;p1;i2;l1;x"), -10 - 21);
        DUE.row("nothing changed: count", Due.counts(x), 9, 1, 1, 5, 1, 2, 1, 2, 22);
        DUE.row("nothing changed: now", Due.now(x), 97, 1, 28, 0, 7, 3, 90);
        DUE.row("nothing changed: crop", Due.crop(x, 0), 1, 1, 7, 1, 0);
        DUE.row("nothing changed: day", Due.day(x, 8), 0, 9, 0, NONE);
        DUE.is("nothing changed: image", x.back(0), 97);
        DUE.is("the rest of the text", x.clear(), 22);
        DUE.is("a good text behind it", Due.read(x, "s1 1;"), 1);
        DUE.row("nothing of the fault is left", Due.counts(x), 1, 1, 0, 2, 3, 9, 0, 0, 0);
    }

    private static void bytesBehindTheText() {
        SpringPawn x = new SpringPawn();
        Due.type(x, "p111;");
        x.clear();
        DUE.is("no digit of an older text", Due.read(x, "p1"), -10 - 2);
        x.clear();
        Due.type(x, "ppp;");
        x.clear();
        DUE.is("no letter of an older text", Due.read(x, "p"), -10 - 1);
        x.clear();
        DUE.is("letters up to the last byte there may be", Due.read(x, " ".repeat(149) + "s"), -10 - 150);
        x.clear();
        DUE.is("a number up to the last byte there may be", Due.read(x, " ".repeat(148) + "s1"), -10 - 150);
        x.clear();
        DUE.is("blanks up to the last byte there may be", Due.read(x, " ".repeat(150)), 0);
    }

    private static void days() {
        SpringPawn x = Due.of("s2 3;s1 0;s3 9;l1;i0;");
        DUE.row("day 0", Due.day(x, 0), 0, 3, 0, NONE);
        DUE.row("day 1", Due.day(x, 1), 0, 3, 0, NONE);
        DUE.row("day 2", Due.day(x, 2), 1, 0, 0, NONE);
        DUE.row("day 5", Due.day(x, 5), 2, 9, 0, NONE);
        x.pawns(0, 1);
        x.pawns(4, 2);
        DUE.row("day 0 is OUT", Due.day(x, 0), 0, 3, 1, 0);
        DUE.row("day 1 is IN", Due.day(x, 1), 0, 3, 0, NONE);
        DUE.row("day 5 is OUT", Due.day(x, 5), 2, 9, 1, 1);
        x.year();
        DUE.row("day 0 is LAPSED", Due.day(x, 0), 0, 3, 2, NONE);
        DUE.row("day 5 is LAPSED", Due.day(x, 5), 2, 9, 2, NONE);
        DUE.all("no such day", BAD, x.day(-1, 0), x.day(6, 0), x.day(30, 1), x.day(6, 3));
        DUE.all("no such what", BAD, x.day(0, -1), x.day(0, 4));
        for (int n : OUTSIDE) {
            DUE.all("day, " + n, BAD, x.day(n, 0), x.day(0, n), x.day(n, n));
        }
    }

    private static void crops() {
        SpringPawn x = Due.of("s2 3;s1 0;s3 9;c2 3 20;c3 1 99;c4 0 0;c4 3 5;");
        DUE.row("crop 0", Due.crop(x, 0), 2, 3, 20, 1, 1);
        DUE.row("crop 1", Due.crop(x, 1), 3, 1, 99, 1, 5);
        DUE.row("crop 2", Due.crop(x, 2), 4, 0, 0, 1, 3);
        DUE.row("crop 3, a poor day between", Due.crop(x, 3), 4, 3, 5, 0, NONE);
        DUE.all("no such crop", BAD, x.crop(-1, 0), x.crop(4, 0), x.crop(4, 4));
        DUE.all("no such what", BAD, x.crop(0, -1), x.crop(0, 5));
        for (int n : OUTSIDE) {
            DUE.all("crop, " + n, BAD, x.crop(n, 0), x.crop(0, n), x.crop(n, n));
        }
    }

    private static void gapsDoNotMatter() {
        SpringPawn x = Due.of("s2 3;s1 0;s3 9;c4 3 5;i0;l1;");
        DUE.row("the poor day is IN", Due.crop(x, 0), 4, 3, 5, 0, NONE);
        x.pawns(2, 1);
        DUE.row("the poor day is OUT", Due.crop(x, 0), 4, 3, 5, 1, 4);
        x.year();
        DUE.row("the poor day is LAPSED", Due.crop(x, 0), 4, 3, 5, 1, 4);
        x.pawns(3, 1);
        DUE.row("a later day", Due.crop(x, 0), 4, 3, 5, 1, 5);
        x.pawns(5, 1);
        DUE.row("too few are left", Due.crop(x, 0), 4, 3, 5, 0, NONE);
    }

    private static void loans() {
        SpringPawn x = Due.of("s5 2;s5 4;p3;i2;");
        x.pawns(3, 3);
        x.pawns(9, 1);
        DUE.row("loan 0", Due.loan(x, 0), 56, 24, 0);
        DUE.row("loan 1", Due.loan(x, 1), 512, 12, 0);
        x.year();
        DUE.row("loan 0, a year on", Due.loan(x, 0), 248, 24, 1);
        DUE.row("loan 1, a year on", Due.loan(x, 1), 512, 12, 1);
        DUE.row("loan 2 is free", Due.loan(x, 2), NONE, NONE, NONE);
        DUE.all("no such loan", BAD, x.loan(-1, 0), x.loan(4, 0));
        DUE.all("no such what", BAD, x.loan(0, -1), x.loan(0, 3), x.loan(2, 3));
        for (int n : OUTSIDE) {
            DUE.all("loan, " + n, BAD, x.loan(n, 0), x.loan(0, n), x.loan(3, n));
        }
    }

    private static void counts() {
        SpringPawn x = Due.of("s2 3;s4 0;c1 1 1;p4;i2;l5;");
        x.tells(0, 0);
        x.tells(0, 1);
        x.pawns(0, 1);
        x.year();
        x.year();
        Due.type(x, "s 1 1");
        DUE.row("count", Due.counts(x), 6, 2, 1, 4, 2, 5, 2, 3, 5);
        DUE.all("no such count", BAD, x.count(-1), x.count(9));
        for (int n : OUTSIDE) {
            DUE.is("count, " + n, x.count(n), BAD);
        }
    }
}
