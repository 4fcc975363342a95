/** A paper that pays, the people who sell it to one another, and what can be asked about them. */
public final class PaperPays {
    public static final int BAD = -1, STATE = -2, FULL = -3, NONE = -9;
    public static final int NO = -1000000;

    private static final int MOST_PEOPLE = 9;
    private static final int MOST_ROUNDS = 20;
    private static final int MOST_PRICE = 999;
    private static final int MOST_ODDS = 279;

    // The rules by the number that rule() asks them by.
    private static final int ROUNDS = 0, EVEN_PAY = 1, ODD_PAY = 2, END = 3, START = 4;
    private static final int LENT = 5, SHORT = 6, LID = 7, FEE = 8, SALES = 9;
    private static final int RULES = 10;
    // A start of 0 can't be told, so here it stands for "as WORTH is in ROUND 0".
    private static final int[] USUAL = {15, 1, 3, 0, 0, 0, 0, 0, 0, 5};
    private static final int[] LEAST = {3, 0, 0, 0, 1, 0, 0, 1, 0, 1};
    private static final int[] MOST = {20, 9, 9, 99, 99, 99, 9, 99, 9, 9};
    private static final int[] WOULD_RULES = {LENT, SHORT, LID, FEE, SALES};

    private static final int LAW_WORTH = 0, LAW_RISING = 1, LAW_RIDING = 2, LAW_MISTAKEN = 3, LAW_FRESH = 4;

    private static final int PERSON = 0, WORTH = 1, RISING = 2, RIDING = 3, MISTAKEN = 4, LEARNT = 5, NEW = 6;
    private static final int[] KIND_ABOVE = {PERSON, PERSON, PERSON, PERSON, PERSON, RIDING, RISING};
    private static final int[] KIND_TRACE = {1, 10, 100, 1000, 10000, 100000, 1000000};

    private final Rules told = new Rules();
    private final Reader reader = new Reader();
    private final Room room = new Room(told);
    private final Rules triedRules = new Rules();
    private final Room tried = new Room(triedRules);
    private final Image firstImage = new Image(told);
    private final Image secondImage = new Image(told);
    private final Riders riders = new Riders();
    private final Clues clues = new Clues();
    private long traced = 0;

    public PaperPays() {
        room.lot = 1;
    }

    // ---- the rules

    public int type(long v, int n) {
        if (n < 1 || n > 8) {
            return BAD;
        }
        return reader.add(v, n) ? reader.length : FULL;
    }

    public int clear() {
        int had = reader.length;
        reader.length = 0;
        return had;
    }

    public int rules() {
        if (!reader.read()) {
            return -10 - reader.fault;
        }
        told.become(reader.draft);
        reader.length = 0;
        room.forgetPeople();
        room.begin();
        firstImage.kept = false;
        secondImage.kept = false;
        return reader.items;
    }

    public int rule(int what) {
        return isWithin(what, 0, RULES - 1) ? told.numbers[what] : BAD;
    }

    public int person(int p, int what) {
        if (!isPerson(p)) {
            return NO;
        }
        switch (what) {
            case 0: return told.laws[p];
            case 1: return told.measures[p];
            case 2: return room.coins[p];
            case 3: return room.sheets[p];
            case 4: return room.valueOf(p);
            case 5: return room.seen[p];
            default: return NO;
        }
    }

    public int worth(int r, int what) {
        if (!isWithin(r, 0, told.numbers[ROUNDS]) || !isWithin(what, 0, 1)) {
            return BAD;
        }
        return what == 0 ? told.worthIn(r) : told.halvesIn(r);
    }

    public int odds(int r, int k) {
        if (!isWithin(r, 0, told.numbers[ROUNDS]) || !isWithin(k, 0, MOST_ODDS)) {
            return BAD;
        }
        return told.oddsOf(r, k);
    }

    // ---- the room

    public int go(int n) {
        if (!isWithin(n, 1, MOST_ROUNDS)) {
            return BAD;
        }
        return room.isOver() ? STATE : room.play(n);
    }

    public int now(int what) {
        switch (what) {
            case 0: return room.round;
            case 1: return room.price;
            case 2: return room.prev;
            case 3: return room.sales;
            case 4: return room.paid;
            case 5: return room.isOver() ? 1 : 0;
            default: return BAD;
        }
    }

    public int board(int r) {
        return isWithin(r, 0, room.round - 1) ? room.boardAt(r) : BAD;
    }

    public int high(int what) {
        switch (what) {
            case 0: return room.peak();
            case 1: return room.peakRound();
            case 2: return room.fallRound();
            case 3: return room.bubble();
            default: return BAD;
        }
    }

    public int gain(int p) {
        if (!isPerson(p) || !room.isOver()) {
            return NO;
        }
        return room.coins[p] - told.coins[p] - told.sheets[p] * room.paid;
    }

    public int again() {
        if (!room.isOver()) {
            return STATE;
        }
        room.begin();
        for (int p = 0; p < told.people; p++) {
            room.seen[p]++;
        }
        return 1;
    }

    public int renew(int p) {
        if (!isPerson(p)) {
            return BAD;
        }
        int had = room.seen[p];
        room.seen[p] = 0;
        return had;
    }

    public int revive(int x) {
        if (!isWithin(x, 0, MOST_PRICE)) {
            return BAD;
        }
        triedRules.become(told);
        for (int k = 0; k <= told.people; k++) {
            playTried(k);
            if (tried.peak() >= x) {
                return k;
            }
        }
        return NONE;
    }

    public int would(int rule, int v, int what) {
        if (!isWithin(rule, 0, WOULD_RULES.length - 1) || !isWithin(what, 0, 2)) {
            return BAD;
        }
        int number = WOULD_RULES[rule];
        int least = number == LID ? 0 : LEAST[number];
        if (!isWithin(v, least, MOST[number])) {
            return BAD;
        }
        triedRules.become(told);
        triedRules.numbers[number] = v;
        playTried(0);
        switch (what) {
            case 0: return tried.peak();
            case 1: return tried.bubble();
            default: return tried.sales;
        }
    }

    public int lot(int v) {
        int had = room.lot;
        room.lot = v;
        return had;
    }

    // ---- riders

    public int ride(int what, int v) {
        if (!isWithin(what, 0, 2) || !isWithin(v, 0, 99)) {
            return BAD;
        }
        return riders.put(what, v);
    }

    public int rests(int m, int r, int what) {
        if (!isWithin(m, 2, 3) || !isWithin(r, 1, 8) || !isWithin(what, 0, 1)) {
            return BAD;
        }
        riders.seekRests(m, r);
        return what == 0 ? riders.restCount : riders.firstRest;
    }

    public int hold(int from, int to, int tenths) {
        if (!isWithin(from, 0, 9) || !isWithin(to, 0, 9)) {
            return BAD;
        }
        if (!isWithin(tenths, 0, riders.holds[from])) {
            return BAD;
        }
        riders.holds[from] -= tenths;
        riders.holds[to] += tenths;
        return riders.holds[to];
    }

    public int out(int what) {
        if (!isWithin(what, 0, 1)) {
            return BAD;
        }
        int best = riders.bestRound();
        return what == 0 ? best : riders.twentyTimesMean(best);
    }

    // ---- clues, what is said

    public int clue(int price) {
        if (!isWithin(price, 0, MOST_PRICE)) {
            return BAD;
        }
        return clues.add(price) ? clues.count : FULL;
    }

    public int fit(int v, int what) {
        if (!isWithin(v, 0, 99) || !isWithin(what, 0, 3)) {
            return BAD;
        }
        if (clues.count < 3) {
            return STATE;
        }
        clues.seekShares(told, v);
        switch (what) {
            case 0: return clues.bestWorth;
            case 1: return clues.bestRising;
            case 2: return 10 - clues.bestWorth - clues.bestRising;
            default: return clues.leastErrors;
        }
    }

    public int say(int p, int price) {
        if (!isPerson(p) || !isWithin(price, 0, MOST_PRICE)) {
            return BAD;
        }
        if (room.isOver()) {
            return STATE;
        }
        int had = room.said[p];
        room.said[p] = price;
        return had;
    }

    public int said(int p, int what) {
        if (!isPerson(p) || !isWithin(what, 0, 1)) {
            return BAD;
        }
        return what == 0 ? room.errors[p] : room.often[p];
    }

    public int truest() {
        return room.leastWrong();
    }

    // ---- kinds, images

    public int mark(int kind, int p) {
        if (!isWithin(kind, PERSON, NEW) || !isPerson(p)) {
            return NO;
        }
        int value = markBody(PERSON, p, 0);
        if (kind == PERSON) {
            return value;
        }
        // No KIND stands more than two steps under PERSON.
        int above = KIND_ABOVE[kind];
        if (above != PERSON) {
            value = markBody(above, p, value);
        }
        return markBody(kind, p, value);
    }

    public int keep(int image) {
        if (!isWithin(image, 0, 1)) {
            return BAD;
        }
        Image kept = imageOf(image);
        kept.room.become(room);
        kept.kept = true;
        return room.round;
    }

    public int back(int image) {
        if (!isWithin(image, 0, 1)) {
            return BAD;
        }
        Image kept = imageOf(image);
        if (!kept.kept) {
            return STATE;
        }
        room.become(kept.room);
        return room.round;
    }

    public int count(int what) {
        switch (what) {
            case 0: return told.people;
            case 1: return room.sumOf(room.sheets);
            case 2: return room.sumOf(room.coins);
            case 3: return clues.count;
            case 4: return reader.length;
            default: return BAD;
        }
    }

    public long trace() {
        return traced;
    }

    // ---- helpers

    private static boolean isWithin(int v, int least, int most) {
        return v >= least && v <= most;
    }

    private boolean isPerson(int p) {
        return isWithin(p, 0, told.people - 1);
    }

    private Image imageOf(int image) {
        return image == 0 ? firstImage : secondImage;
    }

    /** Plays the tried room to its end, the first so many persons renewed; triedRules stand already. */
    private void playTried(int renewed) {
        tried.become(room);
        for (int p = 0; p < renewed && p < MOST_PEOPLE; p++) {
            tried.seen[p] = 0;
        }
        tried.begin();
        tried.play(MOST_ROUNDS);
    }

    private int markBody(int kind, int p, int up) {
        traced += KIND_TRACE[kind];
        switch (kind) {
            case WORTH: return up + room.sheets[p] * told.worthIn(room.round);
            case RISING: return up + room.price;
            case RIDING: return up - room.round;
            case MISTAKEN: return 2 * up;
            case LEARNT: return up + room.seen[p];
            case NEW: return up - room.sheets[p];
            default: return room.coins[p];
        }
    }

    /** What a text tells: the numbers of the market, and the people as they come to it. */
    private static final class Rules {
        final int[] numbers = new int[RULES];
        final int[] laws = new int[MOST_PEOPLE];
        final int[] measures = new int[MOST_PEOPLE];
        final int[] coins = new int[MOST_PEOPLE];
        final int[] sheets = new int[MOST_PEOPLE];
        int people;

        Rules() {
            empty();
            settleStart();
        }

        void empty() {
            System.arraycopy(USUAL, 0, numbers, 0, RULES);
            people = 0;
        }

        /** Comes last: WORTH hangs on numbers that may be told behind the start. */
        void settleStart() {
            if (numbers[START] == 0) {
                numbers[START] = worthIn(0);
            }
        }

        void become(Rules other) {
            System.arraycopy(other.numbers, 0, numbers, 0, RULES);
            System.arraycopy(other.laws, 0, laws, 0, MOST_PEOPLE);
            System.arraycopy(other.measures, 0, measures, 0, MOST_PEOPLE);
            System.arraycopy(other.coins, 0, coins, 0, MOST_PEOPLE);
            System.arraycopy(other.sheets, 0, sheets, 0, MOST_PEOPLE);
            people = other.people;
        }

        int halvesIn(int round) {
            return (numbers[ROUNDS] - round) * (numbers[EVEN_PAY] + numbers[ODD_PAY]) + 2 * numbers[END];
        }

        int worthIn(int round) {
            int dicePay = (numbers[ROUNDS] - round) * (numbers[EVEN_PAY] + numbers[ODD_PAY]);
            return dicePay / 2 + numbers[END];
        }

        int oddsOf(int round, int k) {
            int dice = numbers[ROUNDS] - round;
            int rows = 0;
            int ways = 1;
            for (int odd = 0; odd <= dice; odd++) {
                int pays = (dice - odd) * numbers[EVEN_PAY] + odd * numbers[ODD_PAY] + numbers[END];
                if (pays == k) {
                    rows += ways;
                }
                ways = ways * (dice - odd) / (odd + 1);
            }
            return rows;
        }
    }

    /** The text, and how rules are read from it, token by token. */
    private static final class Reader {
        private static final int MOST_TEXT = 400;
        // Kinds of a token; NOTHING is what can stand nowhere.
        private static final int NOTHING = 0, THE_END = 1, STOP = 2, NUMBER = 3, WORD = 4;
        // A word's number is its place here: those of the rules, person, and then the laws in their order.
        private static final String WORDS =
            "rounds pays end start lent short lid fee sales person worth rising riding mistaken fresh ";
        private static final int PAYS_WORD = 1, PERSON_WORD = 9, FIRST_LAW = 10;

        final byte[] text = new byte[MOST_TEXT];
        int length = 0;
        final Rules draft = new Rules();
        int items = 0;
        int fault = 0;
        private int next = 0;
        private int place = 0;
        private int kind = NOTHING;
        private int value = 0;
        private int toldWords = 0;

        boolean add(long v, int n) {
            if (n < 1 || n > MOST_TEXT - length) {
                return false;
            }
            for (int i = n - 1; i >= 0; i--) {
                text[length] = (byte) (v >> (8 * i));
                length++;
            }
            return true;
        }

        /** Whether the text stands as rules: then draft and items have them, else fault its place. */
        boolean read() {
            draft.empty();
            items = 0;
            next = 0;
            toldWords = 0;
            for (int i = 0; i <= MOST_TEXT; i++) {
                readToken();
                if (kind == THE_END) {
                    break;
                }
                boolean stands = kind == WORD && (value == PERSON_WORD ? readPerson() : readRule(value));
                if (!stands || !readStop()) {
                    fault = place;
                    return false;
                }
                items++;
            }
            draft.settleStart();
            return true;
        }

        private boolean readRule(int word) {
            if (word >= PERSON_WORD || (toldWords >> word & 1) != 0) {
                return false;
            }
            toldWords |= 1 << word;
            // pays has two numbers, so the words behind it stand one ahead of their rules.
            int first = word > PAYS_WORD ? word + 1 : word;
            int last = word == PAYS_WORD ? first + 1 : first;
            for (int number = first; number <= last && number < RULES; number++) {
                if (!readNumber(LEAST[number], MOST[number])) {
                    return false;
                }
                draft.numbers[number] = value;
            }
            return true;
        }

        private boolean readPerson() {
            int p = draft.people;
            if (p < 0 || p >= MOST_PEOPLE) {
                return false;
            }
            readToken();
            if (kind != WORD || value < FIRST_LAW) {
                return false;
            }
            int law = value - FIRST_LAW;
            draft.laws[p] = law;
            draft.measures[p] = 0;
            if (law != LAW_WORTH) {
                if (!readNumber(1, law == LAW_MISTAKEN ? 99 : 9)) {
                    return false;
                }
                draft.measures[p] = value;
            }
            if (!readNumber(0, 99)) {
                return false;
            }
            draft.coins[p] = value;
            if (!readNumber(0, 9)) {
                return false;
            }
            draft.sheets[p] = value;
            draft.people++;
            return true;
        }

        private boolean readNumber(int least, int most) {
            readToken();
            return kind == NUMBER && value >= least && value <= most;
        }

        private boolean readStop() {
            readToken();
            return kind == STOP;
        }

        private int byteAt(int i) {
            return i >= 0 && i < length && i < MOST_TEXT ? text[i] : -1;
        }

        private void readToken() {
            while (next < length && byteAt(next) == ' ') {
                next++;
            }
            place = next;
            int sign = byteAt(next);
            if (next >= length) {
                kind = THE_END;
            } else if (sign == ';') {
                kind = STOP;
                next++;
            } else if (isDigit(sign)) {
                takeNumber();
            } else if (isLetter(sign)) {
                takeWord();
            } else {
                kind = NOTHING;
            }
        }

        private void takeNumber() {
            value = 0;
            while (next < length && isDigit(byteAt(next))) {
                // What is above 99 stays above it, and never wraps.
                value = Math.min(value * 10 + byteAt(next) - '0', 100);
                next++;
            }
            boolean zeroAhead = byteAt(place) == '0' && next - place > 1;
            kind = value > 99 || zeroAhead ? NOTHING : NUMBER;
        }

        private void takeWord() {
            while (next < length && isLetter(byteAt(next))) {
                next++;
            }
            kind = NOTHING;
            int word = 0;
            int from = 0;
            boolean same = true;
            for (int i = 0; i < WORDS.length(); i++) {
                if (WORDS.charAt(i) != ' ') {
                    same = same && WORDS.charAt(i) == byteAt(place + i - from);
                    continue;
                }
                if (same && i - from == next - place) {
                    kind = WORD;
                    value = word;
                }
                word++;
                from = i + 1;
                same = true;
            }
        }

        private static boolean isDigit(int sign) {
            return sign >= '0' && sign <= '9';
        }

        private static boolean isLetter(int sign) {
            return sign >= 'a' && sign <= 'z';
        }
    }

    /** A market as it stands: its rounds, its prices, and what the people have and said. */
    private static final class Room {
        private final Rules ruled;
        int round = 0;
        int price = 0;
        int prev = 0;
        int sales = 0;
        int paid = 0;
        int lot = 0;
        final int[] board = new int[MOST_ROUNDS];
        final int[] coins = new int[MOST_PEOPLE];
        final int[] sheets = new int[MOST_PEOPLE];
        final int[] seen = new int[MOST_PEOPLE];
        final int[] said = new int[MOST_PEOPLE];
        final int[] errors = new int[MOST_PEOPLE];
        final int[] often = new int[MOST_PEOPLE];
        // These three stand for one round only.
        private final int[] bids = new int[MOST_PEOPLE];
        private final int[] bought = new int[MOST_PEOPLE];
        private final int[] sold = new int[MOST_PEOPLE];

        Room(Rules ruled) {
            this.ruled = ruled;
            begin();
        }

        /** What is seen, the errors and the lot outlast a market, so they stay as they are. */
        void begin() {
            round = 0;
            price = ruled.numbers[START];
            prev = price;
            sales = 0;
            paid = 0;
            for (int p = 0; p < MOST_PEOPLE; p++) {
                coins[p] = ruled.coins[p];
                sheets[p] = ruled.sheets[p];
                said[p] = NONE;
            }
        }

        void forgetPeople() {
            for (int p = 0; p < MOST_PEOPLE; p++) {
                seen[p] = 0;
                errors[p] = 0;
                often[p] = 0;
            }
        }

        void become(Room other) {
            round = other.round;
            price = other.price;
            prev = other.prev;
            sales = other.sales;
            paid = other.paid;
            lot = other.lot;
            System.arraycopy(other.board, 0, board, 0, MOST_ROUNDS);
            System.arraycopy(other.coins, 0, coins, 0, MOST_PEOPLE);
            System.arraycopy(other.sheets, 0, sheets, 0, MOST_PEOPLE);
            System.arraycopy(other.seen, 0, seen, 0, MOST_PEOPLE);
            System.arraycopy(other.said, 0, said, 0, MOST_PEOPLE);
            System.arraycopy(other.errors, 0, errors, 0, MOST_PEOPLE);
            System.arraycopy(other.often, 0, often, 0, MOST_PEOPLE);
        }

        boolean isOver() {
            return round >= ruled.numbers[ROUNDS] || round >= MOST_ROUNDS;
        }

        int valueOf(int p) {
            int law = ruled.laws[p];
            int measure = ruled.measures[p];
            if (seen[p] > 0 && (law == LAW_RISING || law == LAW_FRESH)) {
                law = LAW_RIDING;
                measure = 2 * seen[p];
            }
            int most = ruled.numbers[LID] > 0 ? ruled.numbers[LID] : MOST_PRICE;
            return Math.max(0, Math.min(most, valueBy(law, measure)));
        }

        private int valueBy(int law, int measure) {
            int worthNow = ruled.worthIn(round);
            switch (law) {
                case LAW_RISING: return price + measure * (price - prev) / 10;
                case LAW_RIDING: return ruled.numbers[ROUNDS] - round > measure ? Math.max(worthNow, price) + 1 : 0;
                case LAW_MISTAKEN: return measure;
                case LAW_FRESH: return (price + worthNow) / 2 + measure;
                default: return worthNow;
            }
        }

        /** So many rounds, or as many as are left: how many went by. */
        int play(int rounds) {
            int went = 0;
            while (went < rounds && !isOver()) {
                playRound();
                went++;
            }
            return went;
        }

        private void playRound() {
            for (int p = 0; p < ruled.people; p++) {
                bids[p] = valueOf(p);
                bought[p] = 0;
                sold[p] = 0;
            }
            prev = price;
            int inRound = 0;
            while (inRound < ruled.numbers[SALES] && sellOne()) {
                inRound++;
            }
            sales += inRound;
            lot = lot * 1103515245 + 12345;
            payEach((lot >>> 16 & 1) == 0 ? ruled.numbers[EVEN_PAY] : ruled.numbers[ODD_PAY]);
            countSaid();
            if (round < MOST_ROUNDS) {
                board[round] = price;
            }
            round++;
            if (isOver()) {
                payEach(ruled.numbers[END]);
            }
        }

        private boolean sellOne() {
            int buyer = buyer();
            int seller = seller(buyer);
            if (buyer < 0 || seller < 0) {
                return false;
            }
            int ask = bids[seller] + 1;
            if (bids[buyer] < ask) {
                return false;
            }
            price = (bids[buyer] + ask) / 2;
            coins[buyer] -= price + ruled.numbers[FEE];
            coins[seller] += price;
            sheets[buyer]++;
            sheets[seller]--;
            bought[buyer]++;
            sold[seller]++;
            return true;
        }

        private int buyer() {
            int best = -1;
            for (int p = 0; p < ruled.people; p++) {
                boolean can = coins[p] + ruled.numbers[LENT] >= bids[p] + ruled.numbers[FEE];
                if (bought[p] < 2 && can && (best < 0 || bids[p] > bids[best])) {
                    best = p;
                }
            }
            return best;
        }

        private int seller(int buyer) {
            int best = -1;
            for (int p = 0; p < ruled.people; p++) {
                boolean can = p != buyer && sheets[p] + ruled.numbers[SHORT] > 0;
                if (sold[p] < 2 && can && (best < 0 || bids[p] < bids[best])) {
                    best = p;
                }
            }
            return best;
        }

        private void payEach(int pay) {
            paid += pay;
            for (int p = 0; p < ruled.people; p++) {
                coins[p] += sheets[p] * pay;
            }
        }

        private void countSaid() {
            for (int p = 0; p < ruled.people; p++) {
                if (said[p] != NONE) {
                    errors[p] += Math.abs(price - said[p]);
                    often[p]++;
                    said[p] = NONE;
                }
            }
        }

        /** The price behind a round; ahead of the first one it is the start. */
        int boardAt(int r) {
            return r >= 0 && r < MOST_ROUNDS ? board[r] : ruled.numbers[START];
        }

        int peakRound() {
            int best = NONE;
            for (int r = 0; r < round; r++) {
                if (best == NONE || boardAt(r) > boardAt(best)) {
                    best = r;
                }
            }
            return best;
        }

        int peak() {
            int r = peakRound();
            return r == NONE ? 0 : boardAt(r);
        }

        int fallRound() {
            int best = NONE;
            int most = 0;
            for (int r = 0; r < round; r++) {
                int fall = boardAt(r - 1) - boardAt(r);
                if (fall > most) {
                    most = fall;
                    best = r;
                }
            }
            return best;
        }

        int bubble() {
            int sum = 0;
            for (int r = 0; r < round; r++) {
                sum += Math.max(0, 2 * boardAt(r) - ruled.halvesIn(r));
            }
            return sum;
        }

        int leastWrong() {
            int best = NONE;
            for (int p = 0; p < ruled.people; p++) {
                if (often[p] > 0 && (best == NONE || isTruer(p, best))) {
                    best = p;
                }
            }
            return best;
        }

        /** Crosswise, as a mean error need not be whole. */
        private boolean isTruer(int p, int other) {
            return (long) errors[p] * often[other] < (long) errors[other] * often[p];
        }

        int sumOf(int[] each) {
            int sum = 0;
            for (int p = 0; p < ruled.people && p < each.length; p++) {
                sum += each[p];
            }
            return sum;
        }
    }

    /** A room as it stood, if it was kept. */
    private static final class Image {
        final Room room;
        boolean kept = false;

        Image(Rules ruled) {
            room = new Room(ruled);
        }
    }

    /** Those who ride a rising price, the first out taking it; and what one holds of one other. */
    private static final class Riders {
        private static final int BASE = 0, STEP = 1, LEFT = 2;
        private static final int HOLD_ROUNDS = 10;

        private final int[] numbers = {30, 5, 10};
        final int[] holds = {0, 0, 0, 0, 0, 0, 0, 0, 0, 10};
        private final int[] outs = new int[3];
        int restCount = 0;
        int firstRest = NONE;

        int put(int what, int v) {
            if (what < BASE || what > LEFT) {
                return BAD;
            }
            int had = numbers[what];
            numbers[what] = v;
            return had;
        }

        private int priceIn(int round) {
            return numbers[BASE] + numbers[STEP] * round;
        }

        /** Leaves how many rests there are, and the first of them, in the fields. */
        void seekRests(int riders, int lastRound) {
            restCount = 0;
            firstRest = NONE;
            int lastThird = riders > 2 ? lastRound : 0;
            for (int a = 0; a <= lastRound; a++) {
                for (int b = 0; b <= lastRound; b++) {
                    for (int c = 0; c <= lastThird; c++) {
                        outs[0] = a;
                        outs[1] = b;
                        outs[2] = c;
                        if (isRest(riders, lastRound)) {
                            countRest(riders > 2 ? 100 * a + 10 * b + c : 10 * a + b);
                        }
                    }
                }
            }
        }

        private void countRest(int figures) {
            if (restCount == 0) {
                firstRest = figures;
            }
            restCount++;
        }

        private boolean isRest(int riders, int lastRound) {
            for (int i = 0; i < riders && i < outs.length; i++) {
                int told = outs[i];
                int has = shareOf(i, riders);
                boolean stays = true;
                for (int r = 0; r <= lastRound; r++) {
                    outs[i] = r;
                    stays = stays && shareOf(i, riders) <= has;
                }
                outs[i] = told;
                if (!stays) {
                    return false;
                }
            }
            return true;
        }

        private int shareOf(int rider, int riders) {
            int first = outs[rider];
            for (int i = 0; i < riders && i < outs.length; i++) {
                first = Math.min(first, outs[i]);
            }
            if (outs[rider] > first) {
                return numbers[LEFT];
            }
            int together = 0;
            for (int i = 0; i < riders && i < outs.length; i++) {
                together += outs[i] == first ? 1 : 0;
            }
            return together > 0 ? priceIn(first) / together : 0;
        }

        int twentyTimesMean(int round) {
            int sum = 0;
            for (int other = 0; other < HOLD_ROUNDS; other++) {
                int twice = 2 * numbers[LEFT];
                if (round < other) {
                    twice = 2 * priceIn(round);
                } else if (round == other) {
                    twice = priceIn(round);
                }
                sum += holds[other] * twice;
            }
            return sum;
        }

        int bestRound() {
            int best = 0;
            for (int r = 1; r < HOLD_ROUNDS; r++) {
                if (twentyTimesMean(r) > twentyTimesMean(best)) {
                    best = r;
                }
            }
            return best;
        }
    }

    /** Prices told one behind another, and the shares of laws that fit them. */
    private static final class Clues {
        private static final int MOST_CLUES = 12;

        private final int[] prices = new int[MOST_CLUES];
        int count = 0;
        int bestWorth = 0;
        int bestRising = 0;
        int leastErrors = 0;

        boolean add(int price) {
            if (count < 0 || count >= MOST_CLUES) {
                return false;
            }
            prices[count] = price;
            count++;
            return true;
        }

        /** Leaves the best shares and their errors in the fields. */
        void seekShares(Rules ruled, int v) {
            leastErrors = -1;
            // The greatest shares come first, so that of several as good the first stays.
            for (int a = 10; a >= 0; a--) {
                for (int b = 10 - a; b >= 0; b--) {
                    int errors = errorsBy(ruled, a, b, v);
                    if (leastErrors < 0 || errors < leastErrors) {
                        leastErrors = errors;
                        bestWorth = a;
                        bestRising = b;
                    }
                }
            }
        }

        private int errorsBy(Rules ruled, int a, int b, int v) {
            int sum = 0;
            for (int i = 2; i < count && i < MOST_CLUES; i++) {
                int worthThen = ruled.worthIn(Math.min(i, ruled.numbers[ROUNDS]));
                int risingThen = 2 * prices[i - 1] - prices[i - 2];
                sum += Math.abs(a * worthThen + b * risingThen + (10 - a - b) * v - 10 * prices[i]);
            }
            return sum;
        }
    }
}
