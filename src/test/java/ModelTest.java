import java.util.Random;

/** Random runs of 512 calls, each answer against that of the model. */
public final class ModelTest {
    private static final int RUNS = 400;
    private static final int CALLS = 512;
    private static final Due DUE = new Due();

    public static void main(String[] args) {
        for (int run = 0; run < RUNS; run++) {
            new ModelTest(run).run();
        }
        DUE.end();
    }

    private final int run;
    private final Random random;
    private final SpringPawn x = new SpringPawn();
    private final Model m = new Model();
    private int calls = 0;

    private ModelTest(int run) {
        this.run = run;
        this.random = new Random(run);
    }

    private void run() {
        while (calls < CALLS) {
            // A text takes up to 152 calls: behind the 512th any answer would be right.
            if (calls == 0 || random.nextInt(120) == 0 && calls + 152 <= CALLS) {
                tell();
            } else {
                call();
            }
        }
    }

    private int to(int most) {
        return random.nextInt(most + 1);
    }

    /** Mostly a number that may be, now and then one at the edge or far beyond. */
    private int near(int least, int most) {
        switch (to(40)) {
            case 0:
                return least - 1;
            case 1:
                return most + 1;
            case 2:
                return random.nextInt();
            case 3:
                return least;
            case 4:
                return most;
            default:
                return least + random.nextInt(Math.max(1, most - least + 1));
        }
    }

    private void due(String call, long got, long want) {
        calls++;
        DUE.is("run " + run + ", call " + calls + ": " + call, got, want);
    }

    private void tell() {
        String text = to(3) == 0 ? broken(story()) : story();
        for (int i = 0; i < text.length(); i++) {
            due("type", x.type(text.charAt(i)), m.type(text.charAt(i)));
        }
        due("valley of \"" + text + "\"", x.valley(), m.valley());
        if (to(3) > 0) {
            due("clear", x.clear(), m.clear());
        }
    }

    private String story() {
        StringBuilder all = new StringBuilder();
        int seasons = to(4) == 0 ? to(6) : 2 + to(3);
        for (int i = 0; i < seasons; i++) {
            all.append("s").append(1 + to(to(1) == 0 ? 8 : 5)).append(' ').append(to(9)).append(';');
        }
        int crops = to(5) == 0 ? to(5) : 2 + to(2);
        for (int i = 0; i < crops; i++) {
            all.append("c").append(1 + to(to(8))).append(' ').append(to(to(9))).append(' ').append(to(99)).append("; ");
        }
        for (String item : new String[] {"p" + (1 + to(8)), "i" + to(5), "l" + (1 + to(8))}) {
            if (to(2) > 0) {
                all.append(item).append(';');
            }
        }
        return all.toString();
    }

    private String broken(String text) {
        StringBuilder all = new StringBuilder(text);
        String signs = "scpilx;; 0019 A\u0000\u00e9";
        for (int i = to(3); i >= 0 && all.length() > 0; i--) {
            int at = random.nextInt(all.length());
            switch (to(2)) {
                case 0 -> all.deleteCharAt(at);
                case 1 -> all.insert(at, signs.charAt(random.nextInt(signs.length())));
                default -> all.setCharAt(at, signs.charAt(random.nextInt(signs.length())));
            }
        }
        return all.toString();
    }

    private void call() {
        int days = m.count(0);
        int crops = m.count(2);
        switch (to(30)) {
            case 0, 1, 2 -> two("pawns", near(0, days - 1), near(1, 1 + to(8)));
            case 3, 4 -> one("redeems", near(0, 3));
            case 5, 6 -> due("year", x.year(), m.year());
            case 7 -> due("undo", x.undo(), m.undo());
            case 8, 9 -> one("now", near(0, 6));
            case 10 -> two("day", near(0, days - 1), near(0, 3));
            case 11 -> two("crop", near(0, crops - 1), near(0, 4));
            case 12 -> two("loan", near(0, 3), near(0, 2));
            case 13 -> two("lends", near(0, days - 1), near(1, 9));
            case 14, 15 -> two("cheap", near(1, to(1) == 0 ? 999 : 150), near(0, 2));
            case 16 -> one("freeing", near(0, 1));
            case 17 -> one("rich", near(0, to(1) == 0 ? 9999 : 600));
            case 18 -> due("bare", x.bare(), m.bare());
            case 19, 20 -> two("tells", near(0, crops - 1), near(0, 1));
            case 21 -> oneIn(8, "forget");
            case 22, 23 -> one("fits", near(0, 2));
            case 24, 25 -> three("odds", near(0, 10), near(0, to(3) == 0 ? 999 : 200), near(0, 1));
            case 26 -> two("mark", near(0, 5), near(0, crops - 1));
            case 27 -> one("keep", near(0, 1));
            case 28 -> oneIn(3, "back");
            case 29 -> one("count", near(0, 8));
            default -> due("trace", x.trace(), m.trace());
        }
    }

    private void oneIn(int many, String name) {
        if (to(many - 1) > 0) {
            return;
        }
        if (name.equals("forget")) {
            due("forget", x.forget(), m.forget());
        } else {
            one("back", near(0, 1));
        }
    }

    private void one(String name, int a) {
        String call = name + "(" + a + ")";
        switch (name) {
            case "redeems" -> due(call, x.redeems(a), m.redeems(a));
            case "now" -> due(call, x.now(a), m.now(a));
            case "freeing" -> due(call, x.freeing(a), m.freeing(a));
            case "rich" -> due(call, x.rich(a), m.rich(a));
            case "fits" -> due(call, x.fits(a), m.fits(a));
            case "keep" -> due(call, x.keep(a), m.keep(a));
            case "back" -> due(call, x.back(a), m.back(a));
            case "count" -> due(call, x.count(a), m.count(a));
            default -> throw new IllegalArgumentException(name);
        }
    }

    private void two(String name, int a, int b) {
        String call = name + "(" + a + ", " + b + ")";
        switch (name) {
            case "pawns" -> due(call, x.pawns(a, b), m.pawns(a, b));
            case "day" -> due(call, x.day(a, b), m.day(a, b));
            case "crop" -> due(call, x.crop(a, b), m.crop(a, b));
            case "loan" -> due(call, x.loan(a, b), m.loan(a, b));
            case "lends" -> due(call, x.lends(a, b), m.lends(a, b));
            case "cheap" -> due(call, x.cheap(a, b), m.cheap(a, b));
            case "tells" -> due(call, x.tells(a, b), m.tells(a, b));
            case "mark" -> due(call, x.mark(a, b), m.mark(a, b));
            default -> throw new IllegalArgumentException(name);
        }
    }

    private void three(String name, int a, int b, int c) {
        due(name + "(" + a + ", " + b + ", " + c + ")", x.odds(a, b, c), m.odds(a, b, c));
    }
}
