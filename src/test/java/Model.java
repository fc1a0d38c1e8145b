import java.math.BigInteger;
import java.util.ArrayDeque;
import java.util.ArrayList;
import java.util.Deque;
import java.util.List;
import java.util.TreeSet;
import java.util.function.IntUnaryOperator;
import java.util.regex.Matcher;
import java.util.regex.Pattern;

/** The document once more, written another way (with sets, lists and copies), to compare answers with. */
final class Model {
    private static final int BAD = -1, STATE = -2, FULL = -3, NONE = -9, NO = -1000000;

    private record Crop(int needs, int least, int worth) { }

    private record Day(int season, int gift) { }

    private record Loan(TreeSet<Integer> days, int lent, int age) { }

    /** Nothing in it is ever changed: a deed makes a new one. */
    private record Now(List<Loan> loans, TreeSet<Integer> lapsed, int purse, int years) { }

    private record Image(Now now, List<Now> past) { }

    private static final class Fault extends Exception {
        final int place;

        Fault(int place) {
            this.place = place;
        }
    }

    private final StringBuilder text = new StringBuilder();
    private List<Day> days = new ArrayList<>();
    private List<Crop> crops = new ArrayList<>();
    private int seasons = 0, price = 2, interest = 3, lapse = 9;
    private Now now = start();
    private List<Now> past = new ArrayList<>();
    private final Image[] images = new Image[2];
    private final List<int[]> told = new ArrayList<>();
    private long trace = 0;

    private static Now start() {
        List<Loan> free = new ArrayList<>();
        for (int i = 0; i < 4; i++) {
            free.add(null);
        }
        return new Now(free, new TreeSet<>(), 0, 0);
    }

    // ---- the valley

    int type(int c) {
        if (c < 0 || c > 255) {
            return BAD;
        }
        if (text.length() == 150) {
            return FULL;
        }
        return text.append((char) c).length();
    }

    int clear() {
        int had = text.length();
        text.setLength(0);
        return had;
    }

    private record Token(String word, int at) { }

    int valley() {
        Model fresh = new Model();
        int items;
        try {
            items = fresh.readAll(text.toString());
        } catch (Fault f) {
            return -10 - f.place;
        }
        days = fresh.days;
        crops = fresh.crops;
        seasons = fresh.seasons;
        price = fresh.price;
        interest = fresh.interest;
        lapse = fresh.lapse;
        now = start();
        past = new ArrayList<>();
        images[0] = null;
        images[1] = null;
        told.clear();
        text.setLength(0);
        return items;
    }

    private static Deque<Token> tokens(String from) {
        Deque<Token> all = new ArrayDeque<>();
        Matcher m = Pattern.compile(" +|[a-z]+|[0-9]+|(?s:.)").matcher(from);
        while (m.find()) {
            if (m.group().charAt(0) != ' ') {
                all.add(new Token(m.group(), m.start()));
            }
        }
        all.add(new Token("", from.length()));
        return all;
    }

    private int readAll(String from) throws Fault {
        Deque<Token> rest = tokens(from);
        String once = "";
        int items = 0;
        while (!rest.peek().word.isEmpty()) {
            Token t = rest.poll();
            if (once.contains(t.word)) {
                throw new Fault(t.at);
            }
            switch (t.word) {
                case "s" -> {
                    if (seasons == 5) {
                        throw new Fault(t.at);
                    }
                    Token length = rest.peek();
                    int many = number(rest, 1, 9);
                    if (days.size() + many > 30) {
                        throw new Fault(length.at);
                    }
                    int gift = number(rest, 0, 9);
                    for (int i = 0; i < many; i++) {
                        days.add(new Day(seasons, gift));
                    }
                    seasons++;
                }
                case "c" -> {
                    if (crops.size() == 4) {
                        throw new Fault(t.at);
                    }
                    crops.add(new Crop(number(rest, 1, 9), number(rest, 0, 9), number(rest, 0, 99)));
                }
                case "p" -> price = number(rest, 1, 9);
                case "i" -> interest = number(rest, 0, 5);
                case "l" -> lapse = number(rest, 1, 9);
                default -> throw new Fault(t.at);
            }
            if ("pil".contains(t.word)) {
                once += t.word;
            }
            Token end = rest.poll();
            if (!end.word.equals(";")) {
                throw new Fault(end.at);
            }
            items++;
        }
        return items;
    }

    private static int number(Deque<Token> rest, int least, int most) throws Fault {
        Token t = rest.peek();
        if (!t.word.matches("0|[1-9][0-9]?")) {
            throw new Fault(t.at);
        }
        int n = Integer.parseInt(t.word);
        if (n < least || n > most) {
            throw new Fault(t.at);
        }
        rest.poll();
        return n;
    }

    int day(int d, int what) {
        if (d < 0 || d >= days.size() || what < 0 || what > 3) {
            return BAD;
        }
        int by = NONE;
        for (int l = 0; l < 4; l++) {
            if (now.loans.get(l) != null && now.loans.get(l).days.contains(d)) {
                by = l;
            }
        }
        int how = now.lapsed.contains(d) ? 2 : by == NONE ? 0 : 1;
        return new int[] {days.get(d).season, days.get(d).gift, how, by}[what];
    }

    int crop(int c, int what) {
        if (c < 0 || c >= crops.size() || what < 0 || what > 4) {
            return BAD;
        }
        Crop k = crops.get(c);
        int on = ripensOn(k, in(now));
        return new int[] {k.needs, k.least, k.worth, on == NONE ? 0 : 1, on}[what];
    }

    int loan(int l, int what) {
        if (l < 0 || l > 3 || what < 0 || what > 2) {
            return BAD;
        }
        Loan it = now.loans.get(l);
        return it == null ? NONE : new int[] {bits(it.days), it.lent, it.age}[what];
    }

    private static int bits(Iterable<Integer> places) {
        int sum = 0;
        for (int p : places) {
            sum += (int) Math.pow(2, p);
        }
        return sum;
    }

    private TreeSet<Integer> in(Now at) {
        TreeSet<Integer> in = year1();
        in.removeAll(at.lapsed);
        for (Loan l : at.loans) {
            if (l != null) {
                in.removeAll(l.days);
            }
        }
        return in;
    }

    private TreeSet<Integer> year1() {
        TreeSet<Integer> all = new TreeSet<>();
        for (int d = 0; d < days.size(); d++) {
            all.add(d);
        }
        return all;
    }

    /** Looks at every window of the days that are in. */
    private int ripensOn(Crop k, TreeSet<Integer> in) {
        List<Integer> order = new ArrayList<>(in);
        for (int i = 0; i + k.needs <= order.size(); i++) {
            List<Integer> window = order.subList(i, i + k.needs);
            if (window.stream().allMatch(d -> days.get(d).gift >= k.least)) {
                return window.get(k.needs - 1);
            }
        }
        return NONE;
    }

    private int harvest(TreeSet<Integer> in) {
        return crops.stream().filter(k -> ripensOn(k, in) != NONE).mapToInt(Crop::worth).sum();
    }

    // ---- what is done

    private void become(Now next) {
        past.add(now);
        if (past.size() > 10) {
            past.remove(0);
        }
        now = next;
    }

    private static List<Loan> with(List<Loan> loans, int l, Loan it) {
        List<Loan> copy = new ArrayList<>(loans);
        copy.set(l, it);
        return copy;
    }

    private static TreeSet<Integer> range(int d, int n) {
        TreeSet<Integer> row = new TreeSet<>();
        for (int i = d; i < d + n; i++) {
            row.add(i);
        }
        return row;
    }

    int pawns(int d, int n) {
        if (d < 0 || d >= days.size() || n < 1 || n > 9) {
            return BAD;
        }
        int free = now.loans.indexOf(null);
        if (!in(now).containsAll(range(d, n)) || free < 0) {
            return STATE;
        }
        int sum = lends(d, n);
        become(new Now(with(now.loans, free, new Loan(range(d, n), sum, 0)), now.lapsed, now.purse + sum, now.years));
        return sum;
    }

    int redeems(int l) {
        if (l < 0 || l > 3) {
            return BAD;
        }
        Loan it = now.loans.get(l);
        if (it == null || it.lent > now.purse) {
            return STATE;
        }
        become(new Now(with(now.loans, l, null), now.lapsed, now.purse - it.lent, now.years));
        return now.purse;
    }

    private Now next(Now at) {
        List<Loan> loans = new ArrayList<>(at.loans);
        TreeSet<Integer> lapsed = new TreeSet<>(at.lapsed);
        for (int l = 0; l < 4; l++) {
            Loan it = loans.get(l);
            if (it == null) {
                continue;
            }
            TreeSet<Integer> own = new TreeSet<>(it.days);
            for (int i = 0; i < interest; i++) {
                loans.set(l, new Loan(own, it.lent, it.age + 1));
                Integer more = in(new Now(loans, lapsed, 0, 0)).higher(own.last());
                if (more != null) {
                    own.add(more);
                }
            }
            loans.set(l, new Loan(own, it.lent, it.age + 1));
            if (it.age + 1 == lapse) {
                lapsed.addAll(own);
                loans.set(l, null);
            }
        }
        return new Now(loans, lapsed, at.purse + harvest(in(at)), at.years + 1);
    }

    int year() {
        if (now.years == 99) {
            return STATE;
        }
        int before = now.purse;
        become(next(now));
        return now.purse - before;
    }

    int undo() {
        if (past.isEmpty()) {
            return STATE;
        }
        now = past.remove(past.size() - 1);
        return past.size();
    }

    int now(int what) {
        if (what < 0 || what > 6) {
            return BAD;
        }
        TreeSet<Integer> out = new TreeSet<>();
        int owed = 0;
        for (Loan l : now.loans) {
            if (l != null) {
                out.addAll(l.days);
                owed += l.lent;
            }
        }
        return new int[] {now.purse, now.years, bits(out), bits(now.lapsed), harvest(in(now)), gap(), owed}[what];
    }

    private int gap() {
        StringBuilder signs = new StringBuilder();
        for (int d = 0; d < days.size(); d++) {
            signs.append(in(now).contains(d) ? ' ' : 'x');
        }
        int most = 0;
        for (String part : signs.toString().split(" ")) {
            most = Math.max(most, part.length());
        }
        return most;
    }

    // ---- pawn and redeem

    int lends(int d, int n) {
        if (d < 0 || d >= days.size() || n < 1 || n > 9) {
            return BAD;
        }
        return price * days.subList(d, Math.min(d + n, days.size())).stream().mapToInt(Day::gift).sum();
    }

    private TreeSet<Integer> without(TreeSet<Integer> from, TreeSet<Integer> row) {
        TreeSet<Integer> rest = new TreeSet<>(from);
        rest.removeAll(row);
        return rest;
    }

    int cheap(int v, int what) {
        if (v < 1 || v > 999 || what < 0 || what > 2) {
            return BAD;
        }
        List<int[]> rows = new ArrayList<>();
        for (int d = 0; d < days.size(); d++) {
            for (int n = 1; n <= 9; n++) {
                if (in(now).containsAll(range(d, n)) && lends(d, n) >= v) {
                    rows.add(new int[] {d, n, harvest(without(in(now), range(d, n)))});
                }
            }
        }
        rows.sort((a, b) -> a[2] != b[2] ? b[2] - a[2] : a[1] != b[1] ? a[1] - b[1] : a[0] - b[0]);
        return rows.isEmpty() ? NONE : rows.get(0)[what];
    }

    int freeing(int what) {
        if (what < 0 || what > 1) {
            return BAD;
        }
        List<int[]> sets = new ArrayList<>();
        for (int set = 0; set < 16; set++) {
            int cost = 0;
            boolean may = true;
            TreeSet<Integer> in = in(now);
            for (int l = 0; l < 4; l++) {
                if ((set & 1 << l) != 0) {
                    Loan it = now.loans.get(l);
                    may &= it != null;
                    cost += it == null ? 0 : it.lent;
                    in.addAll(it == null ? new TreeSet<>() : it.days);
                }
            }
            if (may && cost <= now.purse) {
                sets.add(new int[] {set, harvest(in), cost});
            }
        }
        sets.sort((a, b) -> a[1] != b[1] ? b[1] - a[1] : a[2] != b[2] ? a[2] - b[2] : a[0] - b[0]);
        return sets.get(0)[what];
    }

    int rich(int v) {
        if (v < 0 || v > 9999) {
            return BAD;
        }
        Now at = now;
        for (int i = 0; i <= 60; i++, at = next(at)) {
            if (at.purse >= v) {
                return i;
            }
        }
        return NONE;
    }

    int bare() {
        Now at = now;
        for (int i = 0; i <= 60; i++, at = next(at)) {
            TreeSet<Integer> in = in(at);
            if (crops.stream().allMatch(k -> ripensOn(k, in) == NONE)) {
                return i;
            }
        }
        return NONE;
    }

    // ---- what was out, hail

    int tells(int c, int is) {
        if (c < 0 || c >= crops.size() || is < 0 || is > 1) {
            return BAD;
        }
        if (told.size() == 6) {
            return FULL;
        }
        told.add(new int[] {c, is});
        return told.size();
    }

    int forget() {
        int had = told.size();
        told.clear();
        return had;
    }

    int fits(int what) {
        if (what < 0 || what > 2) {
            return BAD;
        }
        TreeSet<Integer> codes = new TreeSet<>();
        TreeSet<Integer> sure = year1();
        for (int n = 1; n <= 9; n++) {
            for (int d = 0; d + n <= days.size(); d++) {
                TreeSet<Integer> in = without(year1(), range(d, n));
                if (told.stream().allMatch(t -> (ripensOn(crops.get(t[0]), in) != NONE) == (t[1] == 1))) {
                    codes.add(100 * d + n);
                    sure.retainAll(range(d, n));
                }
            }
        }
        if (codes.isEmpty()) {
            return what == 0 ? 0 : NONE;
        }
        return new int[] {codes.size(), codes.first(), bits(sure)}[what];
    }

    int odds(int x, int v, int what) {
        if (x < 0 || x > 10 || v < 0 || v > 999 || what < 0 || what > 1) {
            return BAD;
        }
        List<Crop> ripe = crops.stream().filter(k -> ripensOn(k, in(now)) != NONE).toList();
        BigInteger upper = hails(ripe, 0, x, v);
        BigInteger lower = BigInteger.TEN.pow(ripe.size());
        BigInteger divisor = upper.gcd(lower);
        return (what == 0 ? upper : lower).divide(divisor).intValue();
    }

    private BigInteger hails(List<Crop> ripe, int at, int x, int left) {
        if (at == ripe.size()) {
            return left <= 0 ? BigInteger.ONE : BigInteger.ZERO;
        }
        BigInteger spoilt = hails(ripe, at + 1, x, left).multiply(BigInteger.valueOf(x));
        return spoilt.add(hails(ripe, at + 1, x, left - ripe.get(at).worth).multiply(BigInteger.valueOf(10 - x)));
    }

    // ---- kinds, images

    int mark(int kind, int c) {
        if (kind < 0 || kind > 5 || c < 0 || c >= crops.size()) {
            return NO;
        }
        Crop k = crops.get(c);
        int nine = ripensOn(k, in(now)) == NONE ? 0 : 9;
        List<IntUnaryOperator> does = List.of(up -> k.worth, up -> up + k.needs, up -> up - k.least,
            up -> up * 2, up -> up + nine, up -> up + now.years);
        int[] above = {-1, 0, 0, 1, 2, 0};
        Deque<Integer> chain = new ArrayDeque<>();
        for (int at = kind; at >= 0; at = above[at]) {
            chain.push(at);
        }
        int value = 0;
        for (int at : chain) {
            trace += (long) Math.pow(10, at);
            value = does.get(at).applyAsInt(value);
        }
        return value;
    }

    int keep(int image) {
        if (image < 0 || image > 1) {
            return BAD;
        }
        images[image] = new Image(now, new ArrayList<>(past));
        return now.purse;
    }

    int back(int image) {
        if (image < 0 || image > 1) {
            return BAD;
        }
        if (images[image] == null) {
            return STATE;
        }
        now = images[image].now;
        past = new ArrayList<>(images[image].past);
        return now.purse;
    }

    int count(int what) {
        int[] all = {days.size(), seasons, crops.size(), price, interest, lapse, told.size(), past.size(), text.length()};
        return what < 0 || what >= all.length ? BAD : all[what];
    }

    long trace() {
        return trace;
    }
}
