/**
 * A valley whose days can be pawned: seasons, crops, loans and years, told by a text.
 *
 * No call makes an object: every row that a call works on is made with the SpringPawn itself.
 */
public final class SpringPawn {
    public static final int BAD = -1, STATE = -2, FULL = -3, NONE = -9;
    /** What none is, where a number may be below 0. */
    public static final int NO = -1000000;

    private static final int TEXT_MOST = 150;
    private static final int NUMBER_MOST = 99;
    private static final int FAULT_BASE = -10;
    private static final int DAYS_MOST = 30;
    private static final int SEASONS_MOST = 5;
    private static final int LONG_MOST = 9;
    private static final int GIFT_MOST = 9;
    private static final int CROPS_MOST = 4;
    private static final int NEEDS_MOST = 9;
    private static final int WORTH_MOST = 99;
    private static final int PRICE_MOST = 9;
    private static final int PRICE_FIRST = 2;
    private static final int INTEREST_MOST = 5;
    private static final int INTEREST_FIRST = 3;
    private static final int LAPSE_MOST = 9;
    private static final int LAPSE_FIRST = 9;
    private static final int LOANS = 4;
    private static final int LOAN_SETS = 1 << LOANS;
    private static final int CROP_SETS = 1 << CROPS_MOST;
    private static final int ROW_MOST = 9;
    /** A row of days as one number: its first day times this, and how many days it has. */
    private static final int ROW_FIRST = 100;
    private static final int YEARS_MOST = 99;
    private static final int YEARS_AHEAD = 60;
    private static final int UNDO_MOST = 10;
    private static final int TOLD_MOST = 6;
    private static final int IMAGES = 2;
    private static final int CHEAP_MOST = 999;
    private static final int RICH_MOST = 9999;
    private static final int ODDS_MOST = 999;
    private static final int TENTHS = 10;

    private static final int END = 0;
    private static final int LETTERS = 1;
    private static final int NUMBER = 2;
    private static final int SEMICOLON = 3;
    private static final int WRONG = 4;

    private final Reader reader = new Reader();
    private Land land = new Land();
    private final Story story = new Story();
    private final Story[] images = new Story[IMAGES];
    private final boolean[] kept = new boolean[IMAGES];
    /** Goes ahead of the story where a call only asks what would be. */
    private final Standing ahead = new Standing();
    private final int[] toldCrop = new int[TOLD_MOST];
    private final int[] toldIs = new int[TOLD_MOST];
    private int told = 0;
    private long traced = 0;

    public SpringPawn() {
        for (int i = 0; i < IMAGES; i++) {
            images[i] = new Story();
        }
    }

    // ---- the valley

    public int type(int c) {
        if (!isWithin(c, 0, 255)) {
            return BAD;
        }
        return reader.text.take(c) ? reader.text.size : FULL;
    }

    public int clear() {
        return reader.text.drop();
    }

    public int valley() {
        int items = reader.readItems();
        if (items < 0) {
            return items;
        }
        land = reader.handOver(land);
        reader.text.drop();
        story.startAnew();
        told = 0;
        for (int i = 0; i < IMAGES; i++) {
            kept[i] = false;
        }
        return items;
    }

    public int day(int d, int what) {
        if (!isDay(d)) {
            return BAD;
        }
        switch (what) {
            case 0:
                return land.season[d];
            case 1:
                return land.gift[d];
            case 2:
                return howDayIs(d);
            case 3:
                return story.now.loanOf(d);
            default:
                return BAD;
        }
    }

    public int crop(int c, int what) {
        if (!isCrop(c)) {
            return BAD;
        }
        switch (what) {
            case 0:
                return land.needs[c];
            case 1:
                return land.least[c];
            case 2:
                return land.worth[c];
            case 3:
                return ripensNow(c) ? 1 : 0;
            case 4:
                return land.ripensOn(c, daysIn());
            default:
                return BAD;
        }
    }

    public int loan(int l, int what) {
        if (!isLoan(l) || !isWithin(what, 0, 2)) {
            return BAD;
        }
        Standing now = story.now;
        if (now.isFree(l)) {
            return NONE;
        }
        switch (what) {
            case 0:
                return now.loanDays[l];
            case 1:
                return now.lent[l];
            default:
                return now.age[l];
        }
    }

    // ---- what is done

    public int pawns(int d, int n) {
        if (!isDay(d) || !isWithin(n, 1, ROW_MOST)) {
            return BAD;
        }
        int loan = story.now.lowestFree();
        if (!isRowIn(d, n) || loan == NONE) {
            return STATE;
        }
        story.remember();
        int sum = land.lentFor(d, n);
        story.now.pawn(loan, rowBits(d, n), sum);
        return sum;
    }

    public int redeems(int l) {
        if (!isLoan(l)) {
            return BAD;
        }
        Standing now = story.now;
        if (now.isFree(l) || now.purse < now.lent[l]) {
            return STATE;
        }
        story.remember();
        now.redeem(l);
        return now.purse;
    }

    public int year() {
        if (story.now.years >= YEARS_MOST) {
            return STATE;
        }
        story.remember();
        return story.now.passYear(land);
    }

    public int undo() {
        return story.goBack() ? story.known : STATE;
    }

    public int now(int what) {
        Standing now = story.now;
        switch (what) {
            case 0:
                return now.purse;
            case 1:
                return now.years;
            case 2:
                return now.daysOut();
            case 3:
                return now.lapsed;
            case 4:
                return land.harvest(daysIn());
            case 5:
                return land.gap(daysIn());
            case 6:
                return now.owed();
            default:
                return BAD;
        }
    }

    // ---- pawn and redeem

    public int lends(int d, int n) {
        if (!isDay(d) || !isWithin(n, 1, ROW_MOST)) {
            return BAD;
        }
        return land.lentFor(d, n);
    }

    public int cheap(int v, int what) {
        if (!isWithin(v, 1, CHEAP_MOST) || !isWithin(what, 0, 2)) {
            return BAD;
        }
        int row = cheapestRow(v);
        if (row == NONE) {
            return NONE;
        }
        int first = row / ROW_FIRST;
        int many = row % ROW_FIRST;
        switch (what) {
            case 0:
                return first;
            case 1:
                return many;
            default:
                return land.harvest(daysIn() & ~rowBits(first, many));
        }
    }

    public int freeing(int what) {
        if (!isWithin(what, 0, 1)) {
            return BAD;
        }
        int set = bestFreeing();
        return what == 0 ? set : land.harvest(daysIn() | story.now.daysOfSet(set));
    }

    public int rich(int v) {
        if (!isWithin(v, 0, RICH_MOST)) {
            return BAD;
        }
        ahead.become(story.now);
        for (int i = 0; i <= YEARS_AHEAD; i++) {
            if (ahead.purse >= v) {
                return i;
            }
            ahead.passYear(land);
        }
        return NONE;
    }

    public int bare() {
        ahead.become(story.now);
        for (int i = 0; i <= YEARS_AHEAD; i++) {
            if (land.ripening(ahead.daysIn(land)) == 0) {
                return i;
            }
            ahead.passYear(land);
        }
        return NONE;
    }

    // ---- what was out, hail

    public int tells(int c, int is) {
        if (!isCrop(c) || !isWithin(is, 0, 1)) {
            return BAD;
        }
        if (told >= TOLD_MOST) {
            return FULL;
        }
        toldCrop[told] = c;
        toldIs[told] = is;
        told++;
        return told;
    }

    public int forget() {
        int had = told;
        told = 0;
        return had;
    }

    public int fits(int what) {
        if (!isWithin(what, 0, 2)) {
            return BAD;
        }
        int many = 0;
        int least = NONE;
        int sure = land.allDays();
        for (int d = 0; d < land.days; d++) {
            for (int n = 1; n <= ROW_MOST && d + n <= land.days; n++) {
                int row = rowBits(d, n);
                if (agreesWithTold(land.allDays() & ~row)) {
                    least = many == 0 ? d * ROW_FIRST + n : least;
                    sure &= row;
                    many++;
                }
            }
        }
        if (what == 0) {
            return many;
        }
        if (many == 0) {
            return NONE;
        }
        return what == 1 ? least : sure;
    }

    public int odds(int x, int v, int what) {
        if (!isWithin(x, 0, TENTHS) || !isWithin(v, 0, ODDS_MOST) || !isWithin(what, 0, 1)) {
            return BAD;
        }
        int ripe = land.ripening(daysIn());
        int upper = 0;
        int lower = 0;
        for (int whole = 0; whole < CROP_SETS; whole++) {
            if ((whole & ~ripe) == 0) {
                int chances = chancesOf(whole, ripe, x);
                lower += chances;
                upper += land.worthOf(whole) >= v ? chances : 0;
            }
        }
        int divisor = greatestDivisor(lower, upper);
        if (divisor == 0) {
            return NONE;
        }
        return (what == 0 ? upper : lower) / divisor;
    }

    // ---- kinds, images

    public int mark(int kind, int c) {
        if (!isCrop(c)) {
            return NO;
        }
        switch (kind) {
            case 0:
                return markAsCrop(c);
            case 1:
                return markAsHay(c);
            case 2:
                return markAsPlum(c);
            case 3:
                return markAsClover(c);
            case 4:
                return markAsSloe(c);
            case 5:
                return markAsLamb(c);
            default:
                return NO;
        }
    }

    public int keep(int image) {
        if (!isWithin(image, 0, IMAGES - 1)) {
            return BAD;
        }
        images[image].become(story);
        kept[image] = true;
        return story.now.purse;
    }

    public int back(int image) {
        if (!isWithin(image, 0, IMAGES - 1)) {
            return BAD;
        }
        if (!kept[image]) {
            return STATE;
        }
        story.become(images[image]);
        return story.now.purse;
    }

    public int count(int what) {
        switch (what) {
            case 0:
                return land.days;
            case 1:
                return land.seasons;
            case 2:
                return land.crops;
            case 3:
                return land.price;
            case 4:
                return land.interest;
            case 5:
                return land.lapse;
            case 6:
                return told;
            case 7:
                return story.known;
            case 8:
                return reader.text.size;
            default:
                return BAD;
        }
    }

    public long trace() {
        return traced;
    }

    // ---- what the calls share

    private static boolean isWithin(int number, int least, int most) {
        return number >= least && number <= most;
    }

    private boolean isDay(int d) {
        return isWithin(d, 0, land.days - 1);
    }

    private boolean isCrop(int c) {
        return isWithin(c, 0, land.crops - 1);
    }

    private static boolean isLoan(int l) {
        return isWithin(l, 0, LOANS - 1);
    }

    private static boolean has(int bits, int place) {
        return (bits >> place & 1) != 0;
    }

    private static int rowBits(int first, int many) {
        return ((1 << many) - 1) << first;
    }

    private int daysIn() {
        return story.now.daysIn(land);
    }

    /** A day behind the last one is not there to be in: a row that goes on behind it is not all in. */
    private boolean isRowIn(int d, int n) {
        return d + n <= land.days && (rowBits(d, n) & ~daysIn()) == 0;
    }

    private boolean ripensNow(int c) {
        return land.ripensOn(c, daysIn()) != NONE;
    }

    private int howDayIs(int d) {
        if (has(story.now.lapsed, d)) {
            return 2;
        }
        return story.now.loanOf(d) == NONE ? 0 : 1;
    }

    /** Short rows first, so that a row found later must bring more to be better. */
    private int cheapestRow(int v) {
        int in = daysIn();
        int best = NONE;
        int bestHarvest = -1;
        for (int n = 1; n <= ROW_MOST; n++) {
            for (int d = 0; d + n <= land.days; d++) {
                int row = rowBits(d, n);
                if ((row & ~in) == 0 && land.lentFor(d, n) >= v) {
                    int harvest = land.harvest(in & ~row);
                    if (harvest > bestHarvest) {
                        best = d * ROW_FIRST + n;
                        bestHarvest = harvest;
                    }
                }
            }
        }
        return best;
    }

    /** Sets by their bits, so that of equals the first found has the least bits. */
    private int bestFreeing() {
        Standing now = story.now;
        int in = daysIn();
        int best = 0;
        int bestCost = 0;
        int bestHarvest = land.harvest(in);
        for (int set = 1; set < LOAN_SETS; set++) {
            int cost = now.costOfSet(set);
            if (now.isSetOfLoans(set) && cost <= now.purse) {
                int harvest = land.harvest(in | now.daysOfSet(set));
                if (harvest > bestHarvest || harvest == bestHarvest && cost < bestCost) {
                    best = set;
                    bestCost = cost;
                    bestHarvest = harvest;
                }
            }
        }
        return best;
    }

    private boolean agreesWithTold(int in) {
        for (int i = 0; i < told; i++) {
            boolean ripens = land.ripensOn(toldCrop[i], in) != NONE;
            if (ripens != (toldIs[i] == 1)) {
                return false;
            }
        }
        return true;
    }

    /** Of all hails, ten for each ripe crop, those that leave just these crops whole. */
    private static int chancesOf(int whole, int ripe, int x) {
        int chances = 1;
        for (int c = 0; c < CROPS_MOST; c++) {
            if (has(ripe, c)) {
                chances *= has(whole, c) ? TENTHS - x : x;
            }
        }
        return chances;
    }

    private static int greatestDivisor(int a, int b) {
        int great = a;
        int small = b;
        for (int i = 0; i < 64 && small != 0; i++) {
            int rest = great % small;
            great = small;
            small = rest;
        }
        return great;
    }

    private int markAsCrop(int c) {
        traced += 1;
        return land.worth[c];
    }

    private int markAsHay(int c) {
        traced += 10;
        return markAsCrop(c) + land.needs[c];
    }

    private int markAsPlum(int c) {
        traced += 100;
        return markAsCrop(c) - land.least[c];
    }

    private int markAsClover(int c) {
        traced += 1000;
        return markAsHay(c) * 2;
    }

    private int markAsSloe(int c) {
        traced += 10000;
        return markAsPlum(c) + (ripensNow(c) ? 9 : 0);
    }

    private int markAsLamb(int c) {
        traced += 100000;
        return markAsCrop(c) + story.now.years;
    }

    /** THE TEXT, and its tokens one after another. */
    private static final class Text {
        final int[] bytes = new int[TEXT_MOST];
        int size = 0;
        /** Where the token in hand begins; the text's length if there is none any more. */
        int tokenAt = 0;
        int tokenKind = END;
        /** The number, or the letter if it stands alone and 0 if it does not. */
        int tokenValue = 0;
        private int place = 0;

        boolean take(int b) {
            if (size >= TEXT_MOST) {
                return false;
            }
            bytes[size] = b;
            size++;
            return true;
        }

        int drop() {
            int had = size;
            size = 0;
            return had;
        }

        void toFirstToken() {
            place = 0;
            toNextToken();
        }

        void toNextToken() {
            while (place < size && bytes[place] == ' ') {
                place++;
            }
            tokenAt = place;
            if (place >= size) {
                tokenKind = END;
            } else if (isLetter(bytes[place])) {
                scanLetters();
            } else if (isDigit(bytes[place])) {
                scanNumber();
            } else {
                tokenKind = bytes[place] == ';' ? SEMICOLON : WRONG;
                place++;
            }
        }

        private void scanLetters() {
            tokenKind = LETTERS;
            tokenValue = bytes[place];
            place++;
            while (place < size && isLetter(bytes[place])) {
                tokenValue = 0;
                place++;
            }
        }

        private void scanNumber() {
            boolean zeroAhead = false;
            tokenValue = 0;
            while (place < size && isDigit(bytes[place])) {
                zeroAhead = zeroAhead || place > tokenAt && tokenValue == 0;
                // One above the most is enough to know that it is too much, however long it is.
                tokenValue = Math.min(tokenValue * 10 + bytes[place] - '0', NUMBER_MOST + 1);
                place++;
            }
            tokenKind = zeroAhead || tokenValue > NUMBER_MOST ? WRONG : NUMBER;
        }

        private static boolean isLetter(int b) {
            return b >= 'a' && b <= 'z';
        }

        private static boolean isDigit(int b) {
            return b >= '0' && b <= '9';
        }
    }

    /** Has THE TEXT and reads its items into a land; behind an item with a fault it reads no more. */
    private static final class Reader {
        final Text text = new Text();
        /** A land of its own, so that nothing changes if the text has a fault. */
        private Land draft = new Land();
        private int fault = NONE;
        private boolean hasPrice = false;
        private boolean hasInterest = false;
        private boolean hasLapse = false;

        /** How many items there are, or FAULT_BASE less the fault. */
        int readItems() {
            fault = NONE;
            hasPrice = false;
            hasInterest = false;
            hasLapse = false;
            draft.startAnew();
            text.toFirstToken();
            int items = 0;
            while (items < TEXT_MOST && fault == NONE && text.tokenKind != END) {
                readItem();
                items++;
            }
            return fault == NONE ? items : FAULT_BASE - fault;
        }

        /** The land that was read; the old one is what the next text is read into. */
        Land handOver(Land old) {
            Land fresh = draft;
            draft = old;
            return fresh;
        }

        private void readItem() {
            switch (text.tokenKind == LETTERS ? text.tokenValue : 0) {
                case 's':
                    readSeason();
                    break;
                case 'c':
                    readCrop();
                    break;
                case 'p':
                    readPrice();
                    break;
                case 'i':
                    readInterest();
                    break;
                case 'l':
                    readLapse();
                    break;
                default:
                    refuseUnless(false);
            }
            readEnd();
        }

        private void readSeason() {
            readLetter(draft.seasons < SEASONS_MOST);
            int days = readNumber(1, Math.min(LONG_MOST, DAYS_MOST - draft.days));
            int gift = readNumber(0, GIFT_MOST);
            if (fault == NONE) {
                draft.addSeason(days, gift);
            }
        }

        private void readCrop() {
            readLetter(draft.crops < CROPS_MOST);
            int needs = readNumber(1, NEEDS_MOST);
            int least = readNumber(0, GIFT_MOST);
            int worth = readNumber(0, WORTH_MOST);
            if (fault == NONE) {
                draft.addCrop(needs, least, worth);
            }
        }

        private void readPrice() {
            readLetter(!hasPrice);
            hasPrice = true;
            draft.price = readNumber(1, PRICE_MOST);
        }

        private void readInterest() {
            readLetter(!hasInterest);
            hasInterest = true;
            draft.interest = readNumber(0, INTEREST_MOST);
        }

        private void readLapse() {
            readLetter(!hasLapse);
            hasLapse = true;
            draft.lapse = readNumber(1, LAPSE_MOST);
        }

        private void readLetter(boolean mayStand) {
            refuseUnless(mayStand);
            text.toNextToken();
        }

        private int readNumber(int least, int most) {
            int number = text.tokenValue;
            refuseUnless(text.tokenKind == NUMBER && isWithin(number, least, most));
            text.toNextToken();
            return number;
        }

        private void readEnd() {
            refuseUnless(text.tokenKind == SEMICOLON);
            text.toNextToken();
        }

        /** Only the first fault is kept: the tokens behind it in the same item may be looked at. */
        private void refuseUnless(boolean mayStand) {
            if (!mayStand && fault == NONE) {
                fault = text.tokenAt;
            }
        }
    }

    /** What a text tells: the year's days, the crops, and the terms of pawning. */
    private static final class Land {
        int seasons = 0;
        int days = 0;
        final int[] season = new int[DAYS_MOST];
        final int[] gift = new int[DAYS_MOST];
        int crops = 0;
        final int[] needs = new int[CROPS_MOST];
        final int[] least = new int[CROPS_MOST];
        final int[] worth = new int[CROPS_MOST];
        int price = PRICE_FIRST;
        int interest = INTEREST_FIRST;
        int lapse = LAPSE_FIRST;

        void startAnew() {
            seasons = 0;
            days = 0;
            crops = 0;
            price = PRICE_FIRST;
            interest = INTEREST_FIRST;
            lapse = LAPSE_FIRST;
        }

        void addSeason(int many, int giftOfEach) {
            for (int i = 0; i < many && days < DAYS_MOST; i++) {
                season[days] = seasons;
                gift[days] = giftOfEach;
                days++;
            }
            seasons++;
        }

        void addCrop(int itsNeeds, int itsLeast, int itsWorth) {
            if (crops < CROPS_MOST) {
                needs[crops] = itsNeeds;
                least[crops] = itsLeast;
                worth[crops] = itsWorth;
                crops++;
            }
        }

        int allDays() {
            return rowBits(0, days);
        }

        int lentFor(int first, int many) {
            int gifts = 0;
            for (int d = first; d < first + many && d < days; d++) {
                gifts += gift[d];
            }
            return gifts * price;
        }

        /** The day on which a crop ripens if just these days are in, or NONE. */
        int ripensOn(int crop, int in) {
            int enough = needs[crop];
            int leastGift = least[crop];
            int inARow = 0;
            for (int d = 0; d < days; d++) {
                if (has(in, d)) {
                    inARow = gift[d] >= leastGift ? inARow + 1 : 0;
                    if (inARow >= enough) {
                        return d;
                    }
                }
            }
            return NONE;
        }

        int ripening(int in) {
            int ripe = 0;
            for (int c = 0; c < crops; c++) {
                if (ripensOn(c, in) != NONE) {
                    ripe |= 1 << c;
                }
            }
            return ripe;
        }

        int worthOf(int cropSet) {
            int sum = 0;
            for (int c = 0; c < crops; c++) {
                if (has(cropSet, c)) {
                    sum += worth[c];
                }
            }
            return sum;
        }

        int harvest(int in) {
            return worthOf(ripening(in));
        }

        int gap(int in) {
            int longest = 0;
            int inARow = 0;
            for (int d = 0; d < days; d++) {
                inARow = has(in, d) ? 0 : inARow + 1;
                longest = Math.max(longest, inARow);
            }
            return longest;
        }
    }

    /** The loans, what is lapsed, the purse and the years, at one time. */
    private static final class Standing {
        /** Bits; a loan without days is free. */
        final int[] loanDays = new int[LOANS];
        final int[] lent = new int[LOANS];
        final int[] age = new int[LOANS];
        int lapsed = 0;
        int purse = 0;
        int years = 0;

        void startAnew() {
            for (int l = 0; l < LOANS; l++) {
                setFree(l);
            }
            lapsed = 0;
            purse = 0;
            years = 0;
        }

        void become(Standing other) {
            for (int l = 0; l < LOANS; l++) {
                loanDays[l] = other.loanDays[l];
                lent[l] = other.lent[l];
                age[l] = other.age[l];
            }
            lapsed = other.lapsed;
            purse = other.purse;
            years = other.years;
        }

        boolean isFree(int l) {
            return loanDays[l] == 0;
        }

        int lowestFree() {
            for (int l = 0; l < LOANS; l++) {
                if (isFree(l)) {
                    return l;
                }
            }
            return NONE;
        }

        int loanOf(int d) {
            for (int l = 0; l < LOANS; l++) {
                if (has(loanDays[l], d)) {
                    return l;
                }
            }
            return NONE;
        }

        int daysOut() {
            return daysOfSet(LOAN_SETS - 1);
        }

        int daysIn(Land land) {
            return land.allDays() & ~daysOut() & ~lapsed;
        }

        int owed() {
            return costOfSet(LOAN_SETS - 1);
        }

        int daysOfSet(int set) {
            int bits = 0;
            for (int l = 0; l < LOANS; l++) {
                if (has(set, l)) {
                    bits |= loanDays[l];
                }
            }
            return bits;
        }

        int costOfSet(int set) {
            int sum = 0;
            for (int l = 0; l < LOANS; l++) {
                if (has(set, l)) {
                    sum += lent[l];
                }
            }
            return sum;
        }

        boolean isSetOfLoans(int set) {
            for (int l = 0; l < LOANS; l++) {
                if (has(set, l) && isFree(l)) {
                    return false;
                }
            }
            return true;
        }

        void pawn(int l, int row, int sum) {
            loanDays[l] = row;
            lent[l] = sum;
            age[l] = 0;
            purse += sum;
        }

        void redeem(int l) {
            purse -= lent[l];
            setFree(l);
        }

        int passYear(Land land) {
            int harvest = land.harvest(daysIn(land));
            purse += harvest;
            years++;
            for (int l = 0; l < LOANS; l++) {
                if (!isFree(l)) {
                    takeInterest(land, l);
                    grow(land, l);
                }
            }
            return harvest;
        }

        private void takeInterest(Land land, int l) {
            int in = daysIn(land);
            int taken = 0;
            for (int d = behindLast(loanDays[l]); d < land.days && taken < land.interest; d++) {
                if (has(in, d)) {
                    loanDays[l] |= 1 << d;
                    taken++;
                }
            }
        }

        private void grow(Land land, int l) {
            age[l]++;
            if (age[l] >= land.lapse) {
                lapsed |= loanDays[l];
                setFree(l);
            }
        }

        private void setFree(int l) {
            loanDays[l] = 0;
            lent[l] = 0;
            age[l] = 0;
        }

        private static int behindLast(int bits) {
            int behind = 0;
            for (int d = 0; d < DAYS_MOST; d++) {
                if (has(bits, d)) {
                    behind = d + 1;
                }
            }
            return behind;
        }
    }

    /** How all stands now, and how it stood ahead of the latest deeds that are known. */
    private static final class Story {
        final Standing now = new Standing();
        final Standing[] past = new Standing[UNDO_MOST];
        int known = 0;

        Story() {
            for (int i = 0; i < UNDO_MOST; i++) {
                past[i] = new Standing();
            }
        }

        void startAnew() {
            now.startAnew();
            known = 0;
        }

        void become(Story other) {
            now.become(other.now);
            known = other.known;
            for (int i = 0; i < UNDO_MOST; i++) {
                past[i].become(other.past[i]);
            }
        }

        void remember() {
            if (known >= UNDO_MOST) {
                loseOldest();
            }
            past[known].become(now);
            known++;
        }

        boolean goBack() {
            if (known <= 0) {
                return false;
            }
            known--;
            now.become(past[known]);
            return true;
        }

        private void loseOldest() {
            Standing oldest = past[0];
            for (int i = 1; i < UNDO_MOST; i++) {
                past[i - 1] = past[i];
            }
            known = UNDO_MOST - 1;
            past[known] = oldest;
        }
    }
}
