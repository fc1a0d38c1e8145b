import java.util.function.ToIntFunction;

/** The sentences of Terms 1: the year, and the text that tells it. */
final class YearEdges extends Edges {
    private static final String BEGIN_ITEMS = "scpil";

    YearEdges(Due due) {
        super(due);
    }

    private void terms(String words) {
        due.sentence("Terms 1", words);
    }

    @Override
    void run() {
        daysOneBehindAnother();
        thirtyDays();
        fiveSeasons();
        longSeasons();
        giftsOfDays();
        fourCrops();
        needs();
        leastGift();
        worth();
        price();
        interest();
        lapse();
        bytesOfTheText();
        blanks();
        items();
        seasonItem();
        cropItem();
        itemsOfOneNumber();
        onceEach();
        tokens();
        firstToken();
        lettersThatBeginNoItem();
        sixthSeason();
        fifthCrop();
        tooLong();
        again();
        numberBeyond();
        byteThatBeginsNone();
        numberAbove99();
        zeroAhead();
        endsTooEarly();
    }

    private void daysOneBehindAnother() {
        terms("DAYS 0 .. of all SEASONS, one behind another");
        SpringPawn x = accepted("s1 7;s9 0;s2 9;", 3);
        due.row("seasons of days", row(13, d -> x.day(d, 0)), 0, 1, 1, 1, 1, 1, 1, 1, 1, 1, 2, 2, BAD);
        due.row("gifts of days", row(13, d -> x.day(d, 1)), 7, 0, 0, 0, 0, 0, 0, 0, 0, 0, 9, 9, BAD);
        due.is("the day ahead of 0", x.day(-1, 0), BAD);
        due.is("no seasons: no day 0", new SpringPawn().day(0, 0), BAD);
    }

    private void thirtyDays() {
        terms("(30 DAYS at most)");
        SpringPawn x = accepted("s9 1;s9 1;s9 1;s3 1;", 4);
        due.is("30 days", x.count(0), 30);
        due.is("the last of them", x.day(29, 0), 3);
        due.is("the one behind it", x.day(30, 0), BAD);
        SpringPawn y = accepted("s9 1;s9 1;s9 1;s2 1;", 4);
        due.is("29 days", y.count(0), 29);
        due.is("the one behind the last", y.day(29, 0), BAD);
        faultAt("s9 1;s9 1;s9 1;s4 1;", 16);
    }

    private void fiveSeasons() {
        terms("SEASONS 0 .. (5 of them at most)");
        SpringPawn x = accepted("s1 1;s1 1;s1 1;s1 1;s1 1;", 5);
        due.is("five seasons", x.count(1), 5);
        due.row("their numbers", row(5, d -> x.day(d, 0)), 0, 1, 2, 3, 4);
        faultAt("s1 1;s1 1;s1 1;s1 1;s1 1;s1 1;", 25);
    }

    /** A number of an item, from one below the least to one above the most, and what a call answers then. */
    private void number(String ahead, String behind, int least, int most, ToIntFunction<SpringPawn> told) {
        for (int n = Math.max(0, least - 1); n <= most + 1; n++) {
            String text = ahead + n + behind;
            if (n < least || n > most) {
                faultAt(text, ahead.length());
            } else {
                due.is("as told by \"" + text + "\"", told.applyAsInt(accepted(text, 1)), n);
            }
        }
        faultAt(ahead + "-1" + behind, ahead.length());
    }

    private void longSeasons() {
        terms("LONG (1 .. 9 DAYS)");
        number("s", " 5;", 1, 9, x -> x.count(0));
    }

    private void giftsOfDays() {
        terms("GIFT (0 .. 9 of each of its DAYS)");
        number("s9 ", ";", 0, 9, x -> x.day(0, 1));
        number("s9 ", ";", 0, 9, x -> x.day(8, 1));
    }

    private void fourCrops() {
        terms("CROPS 0 .. (4 of them at most)");
        SpringPawn x = accepted("c1 0 1;c2 0 2;c3 0 3;c4 0 4;", 4);
        due.is("four crops", x.count(2), 4);
        due.row("their worth", row(5, c -> x.crop(c, 2)), 1, 2, 3, 4, BAD);
        due.is("the crop ahead of 0", x.crop(-1, 0), BAD);
        due.is("no crops: no crop 0", accepted("s1 1;", 1).crop(0, 0), BAD);
        faultAt("c1 0 1;c2 0 2;c3 0 3;c4 0 4;c5 0 5;", 28);
    }

    private void needs() {
        terms("NEEDS (1 .. 9 DAYS in a row)");
        number("c", " 0 0;", 1, 9, x -> x.crop(0, 0));
    }

    private void leastGift() {
        terms("of LEAST GIFT (0 .. 9) each");
        number("c1 ", " 0;", 0, 9, x -> x.crop(0, 1));
    }

    private void worth() {
        terms("WORTH (0 .. 99)");
        number("c1 0 ", ";", 0, 99, x -> x.crop(0, 2));
    }

    private void price() {
        terms("PRICE (1 .. 9; 2 at first)");
        number("p", ";", 1, 9, x -> x.count(3));
        due.is("at first", new SpringPawn().count(3), 2);
        readAnewWithout("p9;", 3, 2);
    }

    private void interest() {
        terms("INTEREST (0 .. 5 DAYS a YEAR; 3 at first)");
        number("i", ";", 0, 5, x -> x.count(4));
        due.is("at first", new SpringPawn().count(4), 3);
        readAnewWithout("i0;", 4, 3);
    }

    private void lapse() {
        terms("LAPSE (1 .. 9 YEARS; 9 at first)");
        number("l", ";", 1, 9, x -> x.count(5));
        due.is("at first", new SpringPawn().count(5), 9);
        readAnewWithout("l1;", 5, 9);
    }

    /** What an older text told, or one with a fault, is gone, however often another is read. */
    private void readAnewWithout(String told, int count, int first) {
        SpringPawn x = accepted(told, 1);
        for (int i = 0; i < 3; i++) {
            Due.read(x, "s1 1;");
            due.is("read anew, not told", x.count(count), first);
        }
        Due.read(x, told + "x");
        x.clear();
        Due.read(x, "s1 1;");
        due.is("read anew behind a fault, not told", x.count(count), first);
    }

    private void bytesOfTheText() {
        terms("They are a text (150 bytes at most), read byte by byte");
        SpringPawn x = new SpringPawn();
        Due.type(x, " ".repeat(145) + "s1 1");
        due.is("the last byte", x.type(';'), 150);
        due.is("one more", x.type('x'), FULL);
        due.is("read up to its last byte, and no more", x.valley(), 1);
        faultAt(" ".repeat(145) + "s1 1x", 149);
        faultAt(" ".repeat(146) + "s1 1", 150);
        SpringPawn y = new SpringPawn();
        Due.type(y, " ".repeat(146) + "s1 1");
        due.is("no room for its end", y.type(';'), FULL);
        due.is("it ends too early", y.valley(), -10 - 150);
        SpringPawn z = accepted("", 0);
        due.is("a text of no bytes has no items", z.count(0), 0);
    }

    private void blanks() {
        terms("blanks (32) between TOKENS");
        accepted("s1 1;", 1);
        accepted("   s   1   1   ;   ", 1);
        accepted("s 1 1;p 1;", 2);
        accepted(" ", 0);
        accepted(" ".repeat(150), 0);
        faultAt("s1 1;p1 1;", 8);
        faultAt("s11;", 1);
        faultAt("c1 11;", 3);
        faultAt("s s1 1;", 2);
        faultAt("c 1 1 9 9;", 8);
        for (int other : new int[] {0, 9, 10, 11, 12, 13, 31, 33, 127, 160, 255}) {
            faultAt("s1" + (char) other + "1;", 2);
        }
    }

    private void items() {
        terms("ITEMS, each letters and what is told, ended by ;");
        accepted("s1 1;c1 1 1;", 2);
        faultAt("s1 1 c1 1 1;", 5);
        faultAt("s1 1;;", 5);
        faultAt(";s1 1;", 0);
        faultAt("1 1;", 0);
        faultAt("s;", 1);
        faultAt("s1 1", 4);
    }

    private void seasonItem() {
        terms("s L G (a season; so that there are not more than 30 DAYS)");
        faultAt("s;", 1);
        faultAt("s1;", 2);
        faultAt("s1 1 1;", 5);
        for (int rest = 3; rest <= 9; rest++) {
            upToDay29("s9 0;s9 0;s" + (12 - rest) + " 0;", 3, rest);
        }
        upToDay29("s9 0;s9 0;s9 0;s1 0;", 4, 2);
        upToDay29("s9 0;s9 0;s9 0;s2 0;", 4, 1);
    }

    private void upToDay29(String ahead, int items, int rest) {
        due.is("up to day 29", accepted(ahead + "s" + rest + " 1;", items + 1).count(0), 30);
        faultAt(ahead + "s" + (rest + 1) + " 1;", ahead.length() + 1);
    }

    private void cropItem() {
        terms("c N G W (a crop)");
        SpringPawn x = accepted("c9 8 77;", 1);
        due.row("as told, in their order", row(3, what -> x.crop(0, what)), 9, 8, 77);
        faultAt("c;", 1);
        faultAt("c1;", 2);
        faultAt("c1 1;", 4);
        faultAt("c1 1 1 1;", 7);
    }

    private void itemsOfOneNumber() {
        for (String item : new String[] {"p N (price)", "i N (interest)", "l N (lapse)"}) {
            terms(item);
            String letter = item.substring(0, 1);
            SpringPawn x = accepted(letter + "1;", 1);
            due.row("price, interest, lapse", row(3, i -> x.count(3 + i)), letter.equals("p") ? 1 : 2,
                letter.equals("i") ? 1 : 3, letter.equals("l") ? 1 : 9);
            faultAt(letter + ";", 1);
            faultAt(letter + "1 1;", 3);
        }
    }

    private void onceEach() {
        terms("p, i, l once each at most.");
        accepted("l1;i1;p1;", 3);
        accepted("i1;p1;l1;", 3);
        for (String letter : new String[] {"p", "i", "l"}) {
            faultAt(letter + "1;" + letter + "1;", 3);
            faultAt(letter + "1;s1 1;  " + letter + "2;", 10);
            SpringPawn x = accepted(letter + "1;", 1);
            due.is("again in another text", Due.read(x, letter + "2;"), 1);
            SpringPawn y = new SpringPawn();
            Due.read(y, letter + "1;x");
            y.clear();
            due.is("again behind a text with a fault", Due.read(y, letter + "2;"), 1);
        }
    }

    private void tokens() {
        terms("TOKENS are letters a .. z side by side, NUMBERS and ;");
        for (int b = 0; b <= 255; b++) {
            SpringPawn x = new SpringPawn();
            x.type(b);
            // A letter that begins an item is no fault: the text ends behind it.
            int place = BEGIN_ITEMS.indexOf(b) >= 0 ? 1 : 0;
            due.is("a text of the byte " + b, x.valley(), b == ' ' ? 0 : -10 - place);
            SpringPawn y = new SpringPawn();
            y.type('s');
            y.type(b);
            boolean letter = b >= 'a' && b <= 'z';
            boolean number = b >= '1' && b <= '9';
            due.is("a text of s and the byte " + b, y.valley(), -10 - (letter ? 0 : number || b == ' ' ? 2 : 1));
        }
    }

    private void firstToken() {
        terms("FAULT: the place of the first byte of the first TOKEN that can't stand there");
        faultAt("x y z", 0);
        faultAt("   xyz", 3);
        faultAt("s1 1;xyz 1;", 5);
        faultAt("s1 12;", 3);
        faultAt("p0;i9;l0;", 1);
        faultAt("p1;i9;l0;", 4);
        faultAt("p1 A", 3);
        faultAt("p 0 A", 2);
        faultAt("s1 1 ss", 5);
        // Letters where a number must stand, whatever they would be as a number, and the other way round.
        faultAt("iab;", 0);
        faultAt("i ab;", 2);
        faultAt("i a;", 2);
        faultAt("s1 ab;", 3);
        faultAt("c1 ab 1;", 3);
        faultAt("c1 0 ab;", 5);
        faultAt("p1 p;", 3);
        faultAt("99 1 1 1;", 0);
        faultAt("s1 1;99 1 1 1;", 5);
        faultAt("s; 1;", 1);
    }

    private void lettersThatBeginNoItem() {
        terms("letters that begin no ITEM");
        for (char letter = 'a'; letter <= 'z'; letter++) {
            if (BEGIN_ITEMS.indexOf(letter) < 0) {
                faultAt("s1 1;" + letter + "1 1 1;", 5);
            }
            for (int i = 0; i < BEGIN_ITEMS.length(); i++) {
                faultAt("" + BEGIN_ITEMS.charAt(i) + letter + "1 1;", 0);
                faultAt("" + letter + BEGIN_ITEMS.charAt(i) + "1 1;", 0);
            }
        }
        faultAt("p".repeat(150), 0);
    }

    private void sixthSeason() {
        terms("a sixth season");
        String five = "s1 1;s1 1;s1 1;s1 1;s1 1;";
        faultAt(five + "s1 1;", 25);
        faultAt(five + "  s", 27);
        faultAt(five + "s0 1;", 25);
        faultAt("s9 1;s9 1;s9 1;s2 1;s1 1;s1 1;", 25);
        accepted(five + "c1 1 1;", 6);
    }

    private void fifthCrop() {
        terms("a fifth crop");
        String four = "c1 1 1;c1 1 1;c1 1 1;c1 1 1;";
        faultAt(four + "c1 1 1;", 28);
        faultAt(four + "  c", 30);
        faultAt(four + "c0 1 1;", 28);
        accepted(four + "s1 1;", 5);
    }

    private void tooLong() {
        terms("an L by which there are too many DAYS");
        faultAt("s9 1;s9 1;s9 1;s3 1;s1 1;", 21);
        faultAt("s9 1;s9 1;s9 1;s3 1;s  1 1;", 23);
        faultAt("s9 1;s9 1;s9 1;s4 1;s9 99;", 16);
        faultAt("s9 1;s9 1;s9 1;s9", 16);
        faultAt("s9 1;s9 1;s9 1;s3 1;s", 21);
    }

    private void again() {
        terms("p, i, l again");
        faultAt("p1;p", 3);
        faultAt("i1;i0;", 3);
        faultAt("l1;  l1;", 5);
        faultAt("p1;i1;l1;l1;p1;", 9);
        faultAt("p1;p0;", 3);
    }

    private void numberBeyond() {
        terms("a NUMBER beyond what it may be, too");
        faultAt("s0 10;", 1);
        faultAt("s9 10;", 3);
        faultAt("c0 10 1;", 1);
        faultAt("c9 10 1;", 3);
        faultAt("p0", 1);
        faultAt("p10", 1);
        faultAt("i6 ;", 1);
        faultAt("l   99;", 4);
    }

    private void byteThatBeginsNone() {
        terms("of a byte that begins none");
        faultAt("s1 1;S1 1;", 5);
        faultAt("s-1 1;", 1);
        faultAt("s+1 1;", 1);
        faultAt("s1.1;", 2);
        faultAt("s1 1:", 4);
        faultAt("s1 1;\n", 5);
        faultAt("s1A 1;", 2);
        faultAt("sA1 1;", 1);
        faultAt(" ".repeat(149) + "\u00ff", 149);
    }

    private void numberAbove99() {
        terms("a NUMBER above 99");
        accepted("c1 1 99;", 1);
        faultAt("c1 1 100;", 5);
        faultAt("c1 1 999;", 5);
        faultAt("100;", 0);
        faultAt("s1 1;100;", 5);
        faultAt("s1 1 100;", 5);
        faultAt("s 100 1;", 2);
        // Numbers that come to 1 if they go round.
        faultAt("p257;", 1);
        faultAt("p65537;", 1);
        faultAt("p4294967297;", 1);
        faultAt("p18446744073709551617;", 1);
        faultAt("p" + "1".repeat(149), 1);
    }

    private void zeroAhead() {
        terms("or with a 0 ahead of others, that TOKEN's");
        accepted("s1 0;c1 0 0;i0;", 3);
        faultAt("s1 00;", 3);
        faultAt("s01 1;", 1);
        faultAt("c1 0 01;", 5);
        faultAt("c1 0 099;", 5);
        faultAt("p  09;", 3);
        faultAt("i00;", 1);
        faultAt("01;", 0);
        faultAt("p" + "0".repeat(148) + "1", 1);
        accepted("c1 0 10;", 1);
        accepted("c1 0 90;", 1);
    }

    private void endsTooEarly() {
        terms("the text's length, if it ends too early.");
        String text = "s9 1;c1 1 10;p1;i1;l1;";
        for (int i = 0; i <= text.length(); i++) {
            String part = text.substring(0, i);
            if (part.isEmpty() || part.endsWith(";")) {
                accepted(part, (int) part.chars().filter(b -> b == ';').count());
                accepted(part + "  ", (int) part.chars().filter(b -> b == ';').count());
            } else {
                faultAt(part, i);
                faultAt(part + "   ", i + 3);
            }
        }
    }
}
