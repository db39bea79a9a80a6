/** Washing before the rain, as the document's promises 1 to 30 tell it. */
public final class ForeRain {
    public static final int BAD = -1, STATE = -2, FULL = -3, NONE = -9;
    public static final int NO = -1000000;

    private static final int MOST_PIECES = 6;
    private static final int MOST_SPOTS = 5;
    private static final int MOST_STEPS = 24;
    private static final int MOST_BYTES = 300;
    private static final int MOST_ON_RACK = 3;
    private static final int MOST_DAYS = 30;
    private static final int IMAGES = 2;
    private static final int LAST_STEP = 99;
    private static final int FARTHEST = 99;
    private static final int SMELLS_FROM = 12;
    private static final int ODDS_STEPS = 18;
    private static final int COIN_WATER = 20;
    private static final int PEG_PULL = 9;
    private static final int MORE_THAN_ALL_WATER = 1000000;
    private static final int RACK = 8;
    private static final int BASKET = 9;

    private final Reader reader;
    private final Told told;
    private final Moment present;
    private final Moment ahead;
    private final Moment[] images;
    private final boolean[] kept;
    private final Hanging hanging;
    private final TakingIn takingIn;
    private final Days days;
    private final Marks marks;

    public ForeRain() {
        reader = new Reader();
        told = new Told();
        present = new Moment(told);
        ahead = new Moment(told);
        images = new Moment[IMAGES];
        for (int image = 0; image < IMAGES; image++) {
            images[image] = new Moment(told);
        }
        kept = new boolean[IMAGES];
        hanging = new Hanging(told, present, ahead);
        takingIn = new TakingIn(told, present);
        days = new Days();
        marks = new Marks(told, present);
    }

    // ---- pieces, spots, sky

    public int type(long v, int n) {
        if (!within(n, 1, 8)) {
            return BAD;
        }
        return reader.take(v, n) ? reader.length : FULL;
    }

    public int clear() {
        return reader.empty();
    }

    public int day() {
        int items = reader.readAll();
        if (items < 0) {
            return items;
        }
        told.copy(reader.found);
        reader.empty();
        present.begin();
        for (int image = 0; image < IMAGES; image++) {
            kept[image] = false;
        }
        return items;
    }

    public int piece(int i, int what) {
        if (!isPiece(i)) {
            return BAD;
        }
        switch (what) {
            case 0: return present.water[i];
            case 1: return told.wide[i];
            case 2: return told.cloth[i];
            case 3: return present.age[i];
            case 4: return present.smells[i] ? 1 : 0;
            case 5: return present.place[i];
            default: return BAD;
        }
    }

    public int spot(int k, int what) {
        if (!isSpot(k)) {
            return BAD;
        }
        switch (what) {
            case 0: return told.room[k];
            case 1: return told.wind[k];
            case 2: return present.pieceAt(k);
            default: return BAD;
        }
    }

    public int sky(int step) {
        return within(step, 0, LAST_STEP) ? told.skyIn(step) : NO;
    }

    // ---- acts

    public int hang(int i, int k) {
        if (!isPiece(i) || !isSpot(k)) {
            return BAD;
        }
        if (present.pieceAt(k) != NONE || !told.fits(i, k)) {
            return STATE;
        }
        present.place[i] = k;
        return 1;
    }

    public int rack(int i) {
        if (!isPiece(i)) {
            return BAD;
        }
        if (present.place[i] == RACK) {
            return STATE;
        }
        if (present.onRack() >= MOST_ON_RACK) {
            return FULL;
        }
        present.place[i] = RACK;
        return present.onRack();
    }

    public int basket(int i) {
        if (!isPiece(i)) {
            return BAD;
        }
        if (present.place[i] == BASKET) {
            return STATE;
        }
        present.place[i] = BASKET;
        return 1;
    }

    public int go(int n) {
        if (!within(n, 1, LAST_STEP)) {
            return BAD;
        }
        if (present.step >= LAST_STEP) {
            return STATE;
        }
        int lost = 0;
        for (int gone = 0; gone < n && present.step < LAST_STEP; gone++) {
            lost += present.pass();
        }
        return lost;
    }

    public int now(int what) {
        switch (what) {
            case 0: return present.step;
            case 1: return present.damp;
            case 2: return present.allWater();
            case 3: return present.onLine();
            case 4: return present.howManyDry();
            case 5: return present.howManySmell();
            default: return BAD;
        }
    }

    public int anew() {
        int step = present.step;
        present.begin();
        return step;
    }

    // ---- foretold

    public int when(int i) {
        return isPiece(i) ? firstOrLast(i, 0, 0, 0) : BAD;
    }

    public int damp(int i, int a, int b, int what) {
        if (!isPiece(i) || !within(a, 0, 99) || !within(b, a, 99) || !within(what, 0, 1)) {
            return BAD;
        }
        return firstOrLast(i, a, b, what);
    }

    public int where(int n, int i) {
        if (!within(n, 1, MOST_STEPS) || i != -1 && !isPiece(i)) {
            return BAD;
        }
        hanging.search(n);
        return i == -1 ? hanging.least : hanging.best[i];
    }

    public int order(int rain, int k) {
        if (!within(rain, 1, 9) || !within(k, -1, 5)) {
            return BAD;
        }
        takingIn.search(rain);
        if (k == -1) {
            return takingIn.least;
        }
        return k < takingIn.hung ? takingIn.best[k] : NONE;
    }

    public long odds(int a, int b, int what) {
        if (!within(b, 1, 9) || !within(a, 0, b) || !within(what, 0, 1)) {
            return BAD;
        }
        if (present.onLine() == 0) {
            return STATE;
        }
        int steps = stepsWithoutRain();
        if (steps == NONE) {
            return what == 0 ? 0 : 1;
        }
        if (steps > ODDS_STEPS) {
            return STATE;
        }
        int common = commonDivisor(b - a, b);
        return power((what == 0 ? b - a : b) / common, steps);
    }

    public int roomFor(int k) {
        if (!within(k, 1, MOST_SPOTS)) {
            return BAD;
        }
        ahead.copy(present);
        for (int gone = 0; gone <= FARTHEST; gone++) {
            if (told.spots - ahead.wetOnLine() >= k) {
                return gone;
            }
            ahead.pass();
        }
        return NONE;
    }

    public int pegs() {
        int pegs = 0;
        boolean neighbour = false;
        for (int k = 0; k < told.spots; k++) {
            int i = present.pieceAt(k);
            if (i != NONE) {
                pegs += 1 + told.wide[i] * told.wind[k] / PEG_PULL - (neighbour ? 1 : 0);
            }
            neighbour = i != NONE;
        }
        return pegs;
    }

    public int coins(int n) {
        if (!within(n, 0, MOST_STEPS)) {
            return BAD;
        }
        ahead.copy(present);
        for (int gone = 0; gone < n; gone++) {
            ahead.pass();
        }
        int coins = 0;
        for (int i = 0; i < told.pieces; i++) {
            coins += (ahead.water[i] + COIN_WATER - 1) / COIN_WATER;
        }
        return coins;
    }

    // ---- days

    public int held(int box, int west, int was) {
        if (!within(box, 0, 1) || !within(west, 0, 1) || !within(was, 0, 1)) {
            return BAD;
        }
        if (days.number >= MOST_DAYS) {
            return FULL;
        }
        days.add(box, west, was);
        return days.number;
    }

    public int right(int who) {
        return within(who, 0, 1) ? days.rights[who] : BAD;
    }

    public int better() {
        if (days.number == 0) {
            return NONE;
        }
        return days.rights[1] > days.rights[0] ? 1 : 0;
    }

    public int trust(int who, int what) {
        if (!within(who, 0, 1) || !within(what, 0, 1)) {
            return BAD;
        }
        int said = days.saidRain[who];
        if (said == 0) {
            return STATE;
        }
        int came = days.rainCame[who];
        return (what == 0 ? came : said) / commonDivisor(came, said);
    }

    // ---- kinds, images

    public int mark(int kind, int i) {
        return within(kind, 0, 5) && isPiece(i) ? marks.as(kind, i) : NO;
    }

    public int keep(int image) {
        if (!within(image, 0, IMAGES - 1)) {
            return BAD;
        }
        images[image].copy(present);
        kept[image] = true;
        return present.step;
    }

    public int back(int image) {
        if (!within(image, 0, IMAGES - 1)) {
            return BAD;
        }
        if (!kept[image]) {
            return STATE;
        }
        present.copy(images[image]);
        return present.step;
    }

    public int count(int what) {
        switch (what) {
            case 0: return told.pieces;
            case 1: return told.spots;
            case 2: return told.steps;
            case 3: return present.onRack();
            case 4: return days.number;
            case 5: return reader.length;
            default: return BAD;
        }
    }

    public long trace() {
        return marks.trace;
    }

    // ---- what several calls need

    private static boolean within(int number, int least, int most) {
        return number >= least && number <= most;
    }

    private boolean isPiece(int i) {
        return within(i, 0, told.pieces - 1);
    }

    private boolean isSpot(int k) {
        return within(k, 0, told.spots - 1);
    }

    /** Behind how many steps the water of a piece is first (what 0) or last (1) from a to b. */
    private int firstOrLast(int i, int a, int b, int what) {
        int found = NONE;
        ahead.copy(present);
        for (int gone = 0; gone <= FARTHEST; gone++) {
            if (within(ahead.water[i], a, b)) {
                found = gone;
                if (what == 0) {
                    break;
                }
            }
            ahead.pass();
        }
        return found;
    }

    /** Steps until all that hang are dry; NONE: never, or the sky has rain on the way. */
    private int stepsWithoutRain() {
        ahead.copy(present);
        for (int gone = 0; gone <= FARTHEST; gone++) {
            if (ahead.wetOnLine() == 0) {
                return gone;
            }
            if (told.skyIn(ahead.step) < 0) {
                return NONE;
            }
            ahead.pass();
        }
        return NONE;
    }

    private static int commonDivisor(int upper, int lower) {
        for (int divisor = lower; divisor > 1; divisor--) {
            if (upper % divisor == 0 && lower % divisor == 0) {
                return divisor;
            }
        }
        return 1;
    }

    private static long power(int base, int times) {
        long product = 1;
        for (int n = 0; n < times; n++) {
            product *= base;
        }
        return product;
    }

    /** What a text has told; rain is held as a sun below 0, so that one row is the sky. */
    private static final class Told {
        int pieces;
        int spots;
        int steps;
        final int[] water = new int[MOST_PIECES];
        final int[] wide = new int[MOST_PIECES];
        final int[] cloth = new int[MOST_PIECES];
        final int[] room = new int[MOST_SPOTS];
        final int[] wind = new int[MOST_SPOTS];
        final int[] suns = new int[MOST_STEPS];

        void forget() {
            pieces = 0;
            spots = 0;
            steps = 0;
        }

        void copy(Told other) {
            pieces = other.pieces;
            spots = other.spots;
            steps = other.steps;
            System.arraycopy(other.water, 0, water, 0, MOST_PIECES);
            System.arraycopy(other.wide, 0, wide, 0, MOST_PIECES);
            System.arraycopy(other.cloth, 0, cloth, 0, MOST_PIECES);
            System.arraycopy(other.room, 0, room, 0, MOST_SPOTS);
            System.arraycopy(other.wind, 0, wind, 0, MOST_SPOTS);
            System.arraycopy(other.suns, 0, suns, 0, MOST_STEPS);
        }

        int skyIn(int step) {
            return within(step, 0, steps - 1) ? suns[step] : 0;
        }

        boolean fits(int i, int k) {
            return wide[i] <= room[k];
        }

        /** Water that a piece has when it has been rained on so often, from so much. */
        int soaked(int i, int from, int rain, int times) {
            return Math.min(2 * water[i], from + times * rain * wide[i]);
        }
    }

    /** All that changes as steps go by, and where the pieces are: what an image keeps. */
    private static final class Moment {
        final Told told;
        int step;
        int damp;
        final int[] water = new int[MOST_PIECES];
        final int[] age = new int[MOST_PIECES];
        final int[] place = new int[MOST_PIECES];
        final boolean[] smells = new boolean[MOST_PIECES];

        Moment(Told told) {
            this.told = told;
        }

        void begin() {
            step = 0;
            damp = 0;
            for (int i = 0; i < told.pieces; i++) {
                water[i] = told.water[i];
                age[i] = 0;
                place[i] = BASKET;
                smells[i] = false;
            }
        }

        void copy(Moment other) {
            step = other.step;
            damp = other.damp;
            for (int i = 0; i < told.pieces; i++) {
                water[i] = other.water[i];
                age[i] = other.age[i];
                place[i] = other.place[i];
                smells[i] = other.smells[i];
            }
        }

        /** One step goes by: what was lost on the line. */
        int pass() {
            int sky = told.skyIn(step);
            int lost = 0;
            for (int i = 0; i < told.pieces; i++) {
                int before = water[i];
                if (place[i] == RACK) {
                    water[i] = Math.max(0, before - 1);
                } else if (hangs(i) && sky < 0) {
                    water[i] = told.soaked(i, before, -sky, 1);
                } else if (hangs(i)) {
                    water[i] = Math.max(0, before - pull(i, sky));
                    lost += before - water[i];
                }
                grow(i);
            }
            damp = damp / 2 + lost / 8;
            step++;
            return lost;
        }

        /** What sun and wind would take from a piece that hangs, had it enough water. */
        private int pull(int i, int sun) {
            return Math.max(0, (sun + told.wind[place[i]]) * told.cloth[i] - damp);
        }

        private void grow(int i) {
            age[i] = water[i] > 0 ? age[i] + 1 : 0;
            if (age[i] >= SMELLS_FROM) {
                smells[i] = true;
            }
        }

        boolean hangs(int i) {
            return within(place[i], 0, told.spots - 1);
        }

        int pieceAt(int k) {
            for (int i = 0; i < told.pieces; i++) {
                if (place[i] == k) {
                    return i;
                }
            }
            return NONE;
        }

        int allWater() {
            int sum = 0;
            for (int i = 0; i < told.pieces; i++) {
                sum += water[i];
            }
            return sum;
        }

        int onLine() {
            int number = 0;
            for (int i = 0; i < told.pieces; i++) {
                number += hangs(i) ? 1 : 0;
            }
            return number;
        }

        int wetOnLine() {
            int number = 0;
            for (int i = 0; i < told.pieces; i++) {
                number += hangs(i) && water[i] > 0 ? 1 : 0;
            }
            return number;
        }

        int onRack() {
            int number = 0;
            for (int i = 0; i < told.pieces; i++) {
                number += place[i] == RACK ? 1 : 0;
            }
            return number;
        }

        int howManyDry() {
            int number = 0;
            for (int i = 0; i < told.pieces; i++) {
                number += water[i] == 0 ? 1 : 0;
            }
            return number;
        }

        int howManySmell() {
            int number = 0;
            for (int i = 0; i < told.pieces; i++) {
                number += smells[i] ? 1 : 0;
            }
            return number;
        }
    }

    /** The text, and how it is read. Nothing that it finds counts before all of it is right. */
    private static final class Reader {
        private static final int END = 0;
        private static final int WORD = 1;
        private static final int NUMBER = 2;
        private static final int SEMICOLON = 3;
        private static final int WRONG = 4;
        private static final int NO_FAULT = -1;

        private final byte[] bytes = new byte[MOST_BYTES];
        final Told found = new Told();
        int length;
        private int next;
        private int start;
        private int token;
        private int value;
        private int fault;

        boolean take(long v, int n) {
            if (n > MOST_BYTES - length) {
                return false;
            }
            for (int left = n - 1; left >= 0; left--) {
                bytes[length] = (byte) (v >>> (8 * left));
                length++;
            }
            return true;
        }

        int empty() {
            int had = length;
            length = 0;
            return had;
        }

        /** How many items; -10 less the fault. */
        int readAll() {
            found.forget();
            next = 0;
            fault = NO_FAULT;
            int items = 0;
            scan();
            while (token != END && fault == NO_FAULT && items < MOST_BYTES) {
                readItem();
                items++;
                scan();
            }
            return fault == NO_FAULT ? items : -10 - fault;
        }

        private void readItem() {
            if (isWord("piece") && found.pieces < MOST_PIECES) {
                readPiece();
            } else if (isWord("spot") && found.spots < MOST_SPOTS) {
                readSpot();
            } else if (isWord("sun")) {
                readSteps(0, 1);
            } else if (isWord("rain")) {
                readSteps(1, -1);
            } else {
                fault = start;
            }
            readSemicolon();
        }

        private void readPiece() {
            int i = found.pieces;
            found.water[i] = readNumber(1, 99);
            found.wide[i] = readNumber(1, 9);
            found.cloth[i] = readNumber(1, 3);
            found.pieces++;
        }

        private void readSpot() {
            int k = found.spots;
            found.room[k] = readNumber(1, 9);
            found.wind[k] = readNumber(0, 9);
            found.spots++;
        }

        private void readSteps(int least, int sign) {
            int sun = sign * readNumber(least, 9);
            int more = readNumber(1, MOST_STEPS - found.steps);
            for (int n = 0; n < more && found.steps < MOST_STEPS; n++) {
                found.suns[found.steps] = sun;
                found.steps++;
            }
        }

        /** A first fault is the one that is told, so nothing is read behind it. */
        private int readNumber(int least, int most) {
            if (fault != NO_FAULT) {
                return 0;
            }
            scan();
            if (token != NUMBER || !within(value, least, most)) {
                fault = start;
                return 0;
            }
            return value;
        }

        private void readSemicolon() {
            if (fault != NO_FAULT) {
                return;
            }
            scan();
            if (token != SEMICOLON) {
                fault = start;
            }
        }

        /** The next token; at the end it stands at the text's length, as a fault there does. */
        private void scan() {
            while (next < length && bytes[next] == ' ') {
                next++;
            }
            start = next;
            if (next >= length) {
                token = END;
            } else if (isLetter(bytes[next])) {
                scanWord();
            } else if (isDigit(bytes[next])) {
                scanNumber();
            } else {
                token = bytes[next] == ';' ? SEMICOLON : WRONG;
                next++;
            }
        }

        private void scanWord() {
            token = WORD;
            while (next < length && isLetter(bytes[next])) {
                next++;
            }
        }

        private void scanNumber() {
            value = 0;
            while (next < length && isDigit(bytes[next])) {
                value = Math.min(100, 10 * value + bytes[next] - '0');
                next++;
            }
            boolean zeroAhead = bytes[start] == '0' && next - start > 1;
            token = zeroAhead || value > 99 ? WRONG : NUMBER;
        }

        private static boolean isLetter(byte sign) {
            return sign >= 'a' && sign <= 'z';
        }

        private static boolean isDigit(byte sign) {
            return sign >= '0' && sign <= '9';
        }

        private boolean isWord(String word) {
            if (token != WORD || next - start != word.length()) {
                return false;
            }
            for (int n = 0; n < word.length(); n++) {
                if (bytes[start + n] != word.charAt(n)) {
                    return false;
                }
            }
            return true;
        }
    }

    /** WHERE: all ways are tried in their order, so the first of several stays. */
    private static final class Hanging {
        private final Told told;
        private final Moment present;
        private final Moment ahead;
        private final int[] tried = new int[MOST_PIECES];
        private final boolean[] taken = new boolean[MOST_SPOTS];
        private final int[][] lowest = new int[MOST_PIECES][MOST_SPOTS + 1];
        private final int[] lowestFrom = new int[MOST_PIECES + 1];
        private int steps;
        final int[] best = new int[MOST_PIECES];
        int least;

        Hanging(Told told, Moment present, Moment ahead) {
            this.told = told;
            this.present = present;
            this.ahead = ahead;
        }

        void search(int n) {
            steps = n;
            least = MORE_THAN_ALL_WATER;
            for (int k = 0; k < MOST_SPOTS; k++) {
                taken[k] = false;
            }
            findLowest();
            tryFrom(this, 0, 0);
        }

        /**
         * No way leaves a piece less water than it would have were the air never damp: what
         * can't come below the least so far by that, is not tried.
         */
        private void findLowest() {
            lowestFrom[told.pieces] = 0;
            for (int i = told.pieces - 1; i >= 0; i--) {
                int lowestOfAll = present.water[i];
                lowest[i][MOST_SPOTS] = present.water[i];
                for (int k = 0; k < told.spots; k++) {
                    if (told.fits(i, k)) {
                        lowest[i][k] = withoutDamp(i, k);
                        lowestOfAll = Math.min(lowestOfAll, lowest[i][k]);
                    }
                }
                lowestFrom[i] = lowestFrom[i + 1] + lowestOfAll;
            }
        }

        private int withoutDamp(int i, int k) {
            ahead.copy(present);
            ahead.place[i] = k;
            for (int gone = 0; gone < steps; gone++) {
                ahead.damp = 0;
                ahead.pass();
            }
            return ahead.water[i];
        }

        /** Pieces below i have their places; their water can't come below the sum. */
        private static void tryFrom(Hanging way, int i, int sum) {
            if (i >= way.told.pieces) {
                way.weigh();
                return;
            }
            int inBasket = sum + way.lowest[i][MOST_SPOTS];
            if (inBasket + way.lowestFrom[i + 1] < way.least) {
                way.tried[i] = BASKET;
                tryFrom(way, i + 1, inBasket);
            }
            for (int k = 0; k < way.told.spots; k++) {
                if (way.taken[k] || !way.told.fits(i, k)) {
                    continue;
                }
                int hung = sum + way.lowest[i][k];
                if (hung + way.lowestFrom[i + 1] < way.least) {
                    way.tried[i] = k;
                    way.taken[k] = true;
                    tryFrom(way, i + 1, hung);
                    way.taken[k] = false;
                }
            }
        }

        private void weigh() {
            ahead.copy(present);
            for (int i = 0; i < told.pieces; i++) {
                ahead.place[i] = tried[i];
            }
            for (int gone = 0; gone < steps; gone++) {
                ahead.pass();
            }
            int water = ahead.allWater();
            if (water < least) {
                least = water;
                System.arraycopy(tried, 0, best, 0, MOST_PIECES);
            }
        }
    }

    /** ORDER: all orders are tried by their numbers, so the first of several stays. */
    private static final class TakingIn {
        private final Told told;
        private final Moment present;
        private final int[] tried = new int[MOST_PIECES];
        private final boolean[] taken = new boolean[MOST_PIECES];
        private int rain;
        final int[] best = new int[MOST_PIECES];
        int hung;
        int least;

        TakingIn(Told told, Moment present) {
            this.told = told;
            this.present = present;
        }

        void search(int falling) {
            rain = falling;
            hung = present.onLine();
            least = MORE_THAN_ALL_WATER;
            for (int i = 0; i < MOST_PIECES; i++) {
                taken[i] = false;
            }
            tryFrom(this, 0, present.allWater());
        }

        /** So many are in; each was rained on as often as others were taken ahead of it. */
        private static void tryFrom(TakingIn way, int in, int water) {
            if (in >= way.hung) {
                way.weigh(water);
                return;
            }
            for (int i = 0; i < way.told.pieces; i++) {
                if (way.present.hangs(i) && !way.taken[i]) {
                    int dry = way.present.water[i];
                    int wet = way.told.soaked(i, dry, way.rain, in);
                    way.tried[in] = i;
                    way.taken[i] = true;
                    tryFrom(way, in + 1, water + wet - dry);
                    way.taken[i] = false;
                }
            }
        }

        private void weigh(int water) {
            if (water < least) {
                least = water;
                System.arraycopy(tried, 0, best, 0, MOST_PIECES);
            }
        }
    }

    /** Of the days only sums are asked for, so only they are held: 0 the box, 1 the west. */
    private static final class Days {
        int number;
        final int[] rights = new int[2];
        final int[] saidRain = new int[2];
        final int[] rainCame = new int[2];

        void add(int box, int west, int was) {
            number++;
            addOf(0, box, was);
            addOf(1, west, was);
        }

        private void addOf(int who, int said, int was) {
            rights[who] += said == was ? 1 : 0;
            saidRain[who] += said;
            rainCame[who] += said * was;
        }
    }

    /** A piece as if of a kind: each body leaves its number and asks the kind above once. */
    private static final class Marks {
        private final Told told;
        private final Moment present;
        long trace;

        Marks(Told told, Moment present) {
            this.told = told;
            this.present = present;
        }

        int as(int kind, int i) {
            switch (kind) {
                case 1: return asWet(i);
                case 2: return asDrying(i);
                case 3: return asRainedOn(i);
                case 4: return asSmelling(i);
                case 5: return asFrozen(i);
                default: return asPiece(i);
            }
        }

        private int asPiece(int i) {
            trace += 1;
            return present.water[i];
        }

        private int asWet(int i) {
            trace += 10;
            return 2 * asPiece(i);
        }

        private int asDrying(int i) {
            trace += 100;
            return asPiece(i) - told.cloth[i];
        }

        private int asRainedOn(int i) {
            trace += 1000;
            return asWet(i) + told.wide[i];
        }

        private int asSmelling(int i) {
            trace += 10000;
            return asDrying(i) + present.age[i];
        }

        private int asFrozen(int i) {
            trace += 100000;
            return asPiece(i) - present.step;
        }
    }
}
