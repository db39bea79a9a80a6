/**
 * Every call that may be refused, with the numbers one beyond each edge and far beyond: the answer,
 * which refusal comes first, and that nothing has changed.
 */
public final class ForeRainRefusals {
    private static final int BAD = -1, STATE = -2, FULL = -3, NO = -1000000;

    private record Place(String name, int pieces, int spots, Probe.World world) { }

    private static final Place NEW = new Place("a new object", 0, 0, ForeRain::new);
    private static final Place BUSY = new Place("a busy object", 4, 3, ForeRainRefusals::busy);
    private static final Place ALL_FULL = new Place("a full object", 6, 5, ForeRainRefusals::full);
    private static final Place[] PLACES = {NEW, BUSY, ALL_FULL};

    public static void main(String[] args) {
        for (Place place : PLACES) {
            noSuchPiece(place);
            noSuchSpot(place);
            numbersOfLooks(place);
            numbersOfActs(place);
            numbersOfForetelling(place);
            numbersOfOdds(place);
            numbersOfDays(place);
            numbersOfImages(place);
        }
        hangIsRefused();
        rackIsRefused();
        basketIsRefused();
        goIsRefused();
        oddsAreRefused();
        dayIsFull();
        trustIsRefused();
        backIsRefused();
        textIsFull();
        badComesFirst();
        stateComesAheadOfFull();
        Due.end();
    }

    /** PIECE 0 hangs, 1 is on THE RACK, 2 and 3 are in THE BASKET; it is damp, some SMELL; IMAGE 0 is kept. */
    private static ForeRain busy() {
        ForeRain x = Probe.told("piece 80 3 2;piece 20 1 1;piece 50 9 3;piece 4 5 1;"
            + "spot 3 4;spot 9 1;spot 4 0;sun 0 12;sun 7 4;rain 2 1;");
        x.rack(1);
        x.go(12);
        x.keep(0);
        x.hang(0, 0);
        x.go(2);
        x.held(1, 0, 1);
        x.held(0, 1, 1);
        x.held(1, 1, 0);
        x.mark(4, 0);
        Probe.type(x, "sun 3 2;piece 1");
        return x;
    }

    /** 6 PIECES, 5 SPOTS, 24 STEPS, 3 on THE RACK, STEP 99, 30 DAYS, 300 bytes, both IMAGES. */
    private static ForeRain full() {
        ForeRain x = Probe.told("piece 99 9 1;piece 98 1 3;piece 97 2 2;piece 96 3 1;piece 95 4 1;piece 94 5 1;"
            + "spot 9 0;spot 1 9;spot 2 1;spot 9 2;spot 9 3;sun 9 12;rain 9 12;");
        x.hang(0, 0);
        x.hang(1, 1);
        x.hang(2, 2);
        x.rack(3);
        x.rack(4);
        x.rack(5);
        x.go(23);
        x.keep(0);
        x.go(1);
        x.keep(1);
        x.go(99);
        for (int n = 0; n < 30; n++) {
            x.held(n & 1, n >> 1 & 1, n >> 2 & 1);
        }
        x.mark(5, 5);
        Probe.type(x, "rain 9 24;" + " ".repeat(290));
        return x;
    }

    /** One beyond each edge, and farther; no int of these is from least to most. */
    private static int[] beyond(int least, int most) {
        return new int[] {least - 1, most + 1, least - 256, most + 256, most + 65536,
            Integer.MIN_VALUE, Integer.MIN_VALUE + 1, Integer.MAX_VALUE};
    }

    private static void refused(Place place, String call, Probe.Call asked, long want) {
        Probe.unchanged(call + " of " + place.name, place.world, asked, want);
    }

    private static void noSuchPiece(Place place) {
        Due.by("BAD (a number is not as told, or there is no such thing)");
        for (int i : beyond(0, place.pieces - 1)) {
            refused(place, "piece(" + i + ", 0)", x -> x.piece(i, 0), BAD);
            refused(place, "piece(" + i + ", 5)", x -> x.piece(i, 5), BAD);
            refused(place, "hang(" + i + ", 0)", x -> x.hang(i, 0), BAD);
            refused(place, "hang(" + i + ", 1)", x -> x.hang(i, 1), BAD);
            refused(place, "rack(" + i + ")", x -> x.rack(i), BAD);
            refused(place, "basket(" + i + ")", x -> x.basket(i), BAD);
            refused(place, "when(" + i + ")", x -> x.when(i), BAD);
            refused(place, "damp(" + i + ", 0, 99, 0)", x -> x.damp(i, 0, 99, 0), BAD);
            refused(place, "damp(" + i + ", 0, 99, 1)", x -> x.damp(i, 0, 99, 1), BAD);
            if (i != -1) {
                refused(place, "where(1, " + i + ")", x -> x.where(1, i), BAD);
            }
            for (int kind = 0; kind <= 5; kind++) {
                int as = kind;
                refused(place, "mark(" + kind + ", " + i + ")", x -> x.mark(as, i), NO);
            }
        }
        Due.by("WHERE: WATER of all then (i = -1), the SPOT of a PIECE (9: THE BASKET). BAD.");
        for (int i : new int[] {-2, place.pieces, -9, Integer.MIN_VALUE, Integer.MAX_VALUE}) {
            refused(place, "where(24, " + i + ")", x -> x.where(24, i), BAD);
        }
    }

    private static void noSuchSpot(Place place) {
        Due.by("BAD (a number is not as told, or there is no such thing)");
        for (int k : beyond(0, place.spots - 1)) {
            for (int what = 0; what <= 2; what++) {
                int of = what;
                refused(place, "spot(" + k + ", " + what + ")", x -> x.spot(k, of), BAD);
            }
            refused(place, "hang(0, " + k + ")", x -> x.hang(0, k), BAD);
        }
        // the numbers that tell THE RACK and THE BASKET are no SPOTS
        refused(place, "hang(0, 8)", x -> x.hang(0, 8), BAD);
        refused(place, "hang(0, 9)", x -> x.hang(0, 9), BAD);
        refused(place, "spot(8, 2)", x -> x.spot(8, 2), BAD);
        refused(place, "spot(9, 2)", x -> x.spot(9, 2), BAD);
    }

    private static void numbersOfLooks(Place place) {
        Due.by("Of a PIECE: 0 WATER NOW, 1 WIDE, 2 CLOTH, 3 AGE, 4 whether it SMELLS, 5 where it is");
        for (int what : beyond(0, 5)) {
            refused(place, "piece(0, " + what + ")", x -> x.piece(0, what), BAD);
        }
        Due.by("Of a SPOT: 0 ROOM, 1 WIND, 2 the PIECE there (NONE). BAD.");
        for (int what : beyond(0, 2)) {
            refused(place, "spot(0, " + what + ")", x -> x.spot(0, what), BAD);
        }
        Due.by("Of a STEP (0 .. 99): SUN, or 0 less RAIN. NO: BAD.");
        for (int step : beyond(0, 99)) {
            refused(place, "sky(" + step + ")", x -> x.sky(step), NO);
        }
        Due.by("0 STEP, 1 DAMP, 2 WATER of all, 3 how many hang, 4 how many are DRY, 5 how many SMELL. BAD.");
        for (int what : beyond(0, 5)) {
            refused(place, "now(" + what + ")", x -> x.now(what), BAD);
        }
        Due.by("0 PIECES, 1 SPOTS, 2 STEPS told, 3 on THE RACK, 4 DAYS, 5 bytes of THE TEXT. BAD.");
        for (int what : beyond(0, 5)) {
            refused(place, "count(" + what + ")", x -> x.count(what), BAD);
        }
    }

    private static void numbersOfActs(Place place) {
        Due.by("The lowest n (1 .. 8) bytes of v");
        for (int n : beyond(1, 8)) {
            refused(place, "type(32, " + n + ")", x -> x.type(32, n), BAD);
        }
        Due.by("n STEPS go by (1 .. 99; to 99)");
        for (int n : beyond(1, 99)) {
            refused(place, "go(" + n + ")", x -> x.go(n), BAD);
        }
    }

    private static void numbersOfForetelling(Place place) {
        Due.by("DAMP ENOUGH: the first (what = 0), the last (1); NONE. BAD (b less than a, too).");
        for (int n : beyond(0, 99)) {
            refused(place, "damp(0, " + n + ", 99, 0)", x -> x.damp(0, n, 99, 0), BAD);
            refused(place, "damp(0, 0, " + n + ", 0)", x -> x.damp(0, 0, n, 0), BAD);
            refused(place, "damp(0, " + n + ", " + n + ", 1)", x -> x.damp(0, n, n, 1), BAD);
        }
        for (int a : new int[] {1, 50, 99}) {
            refused(place, "damp(0, " + a + ", " + (a - 1) + ", 0)", x -> x.damp(0, a, a - 1, 0), BAD);
            refused(place, "damp(0, " + a + ", 0, 1)", x -> x.damp(0, a, 0, 1), BAD);
        }
        for (int what : beyond(0, 1)) {
            refused(place, "damp(0, 0, 99, " + what + ")", x -> x.damp(0, 0, 99, what), BAD);
        }
        Due.by("WHERE by n (1 .. 24)");
        for (int n : beyond(1, 24)) {
            refused(place, "where(" + n + ", -1)", x -> x.where(n, -1), BAD);
            refused(place, "where(" + n + ", 0)", x -> x.where(n, 0), BAD);
        }
        Due.by("ORDER by RAIN R (1 .. 9)");
        for (int rain : beyond(1, 9)) {
            refused(place, "order(" + rain + ", -1)", x -> x.order(rain, -1), BAD);
            refused(place, "order(" + rain + ", 5)", x -> x.order(rain, 5), BAD);
        }
        Due.by("BAD (k 5 at most)");
        for (int k : beyond(-1, 5)) {
            refused(place, "order(1, " + k + ")", x -> x.order(1, k), BAD);
        }
        Due.by("ROOM FOR k (1 .. 5)");
        for (int k : beyond(1, 5)) {
            refused(place, "roomFor(" + k + ")", x -> x.roomFor(k), BAD);
        }
        Due.by("COINS by n (0 .. 24)");
        for (int n : beyond(0, 24)) {
            refused(place, "coins(" + n + ")", x -> x.coins(n), BAD);
        }
    }

    private static void numbersOfOdds(Place place) {
        Due.by("ODDS a in b (0 .. 9, 1 .. 9, a no more than b)");
        for (int a : beyond(0, 9)) {
            refused(place, "odds(" + a + ", 9, 0)", x -> x.odds(a, 9, 0), BAD);
            refused(place, "odds(" + a + ", " + a + ", 1)", x -> x.odds(a, a, 1), BAD);
        }
        for (int b : beyond(1, 9)) {
            refused(place, "odds(0, " + b + ", 0)", x -> x.odds(0, b, 0), BAD);
            refused(place, "odds(1, " + b + ", 1)", x -> x.odds(1, b, 1), BAD);
        }
        for (int b = 1; b <= 9; b++) {
            int lower = b;
            refused(place, "odds(" + (b + 1) + ", " + b + ", 0)", x -> x.odds(lower + 1, lower, 0), BAD);
        }
        for (int what : beyond(0, 1)) {
            refused(place, "odds(1, 2, " + what + ")", x -> x.odds(1, 2, what), BAD);
        }
    }

    private static void numbersOfDays(Place place) {
        Due.by("what THE BOX said, what THE WEST said, what was (0 dry, 1 rain)");
        for (int said : beyond(0, 1)) {
            refused(place, "held(" + said + ", 0, 0)", x -> x.held(said, 0, 0), BAD);
            refused(place, "held(0, " + said + ", 0)", x -> x.held(0, said, 0), BAD);
            refused(place, "held(0, 0, " + said + ")", x -> x.held(0, 0, said), BAD);
        }
        Due.by("HELD of one (who 0, 1). BAD.");
        for (int who : beyond(0, 1)) {
            refused(place, "right(" + who + ")", x -> x.right(who), BAD);
        }
        Due.by("TRUST: upper (what = 0), lower number (1), in least terms. BAD; STATE.");
        for (int n : beyond(0, 1)) {
            refused(place, "trust(" + n + ", 0)", x -> x.trust(n, 0), BAD);
            refused(place, "trust(" + n + ", 1)", x -> x.trust(n, 1), BAD);
            refused(place, "trust(0, " + n + ")", x -> x.trust(0, n), BAD);
            refused(place, "trust(1, " + n + ")", x -> x.trust(1, n), BAD);
        }
    }

    private static void numbersOfImages(Place place) {
        Due.by("MARK. NO: BAD.");
        for (int kind : beyond(0, 5)) {
            refused(place, "mark(" + kind + ", 0)", x -> x.mark(kind, 0), NO);
        }
        Due.by("An IMAGE is kept: the STEP. BAD.");
        for (int image : beyond(0, 1)) {
            refused(place, "keep(" + image + ")", x -> x.keep(image), BAD);
        }
        Due.by("All of that becomes as an IMAGE has it: the STEP. BAD; STATE: none was kept.");
        for (int image : beyond(0, 1)) {
            refused(place, "back(" + image + ")", x -> x.back(image), BAD);
        }
    }

    private static void hangIsRefused() {
        Due.by("A PIECE is HUNG (from wherever it is): 1. BAD; STATE: a PIECE is there (itself, too), or no ROOM.");
        refused(BUSY, "hang(0, 0): itself is there", x -> x.hang(0, 0), STATE);
        refused(BUSY, "hang(1, 0): another is there, ROOM for it", x -> x.hang(1, 0), STATE);
        refused(BUSY, "hang(2, 0): another is there, no ROOM", x -> x.hang(2, 0), STATE);
        refused(BUSY, "hang(2, 2): 9 WIDE, ROOM 4", x -> x.hang(2, 2), STATE);
        refused(BUSY, "hang(3, 2): 5 WIDE, ROOM 4", x -> x.hang(3, 2), STATE);
        refused(ALL_FULL, "hang(3, 1): from THE RACK", x -> x.hang(3, 1), STATE);
        refused(ALL_FULL, "hang(0, 1): from another SPOT", x -> x.hang(0, 1), STATE);
    }

    private static void rackIsRefused() {
        Due.by("A PIECE comes to THE RACK: how many are there. BAD; STATE: it is there; FULL: 3 are.");
        refused(BUSY, "rack(1)", x -> x.rack(1), STATE);
        refused(ALL_FULL, "rack(0)", x -> x.rack(0), FULL);
        refused(ALL_FULL, "rack(2)", x -> x.rack(2), FULL);
        Place three = new Place("a full RACK", 6, 5, () -> {
            ForeRain x = full();
            x.basket(1);
            return x;
        });
        refused(three, "rack(1) from THE BASKET", x -> x.rack(1), FULL);
    }

    private static void basketIsRefused() {
        Due.by("A PIECE comes into THE BASKET: 1. BAD; STATE: it is there.");
        refused(BUSY, "basket(2)", x -> x.basket(2), STATE);
        refused(BUSY, "basket(3)", x -> x.basket(3), STATE);
        Place first = new Place("a new text", 1, 0, () -> Probe.told("piece 1 1 1;"));
        refused(first, "basket(0)", x -> x.basket(0), STATE);
    }

    private static void goIsRefused() {
        Due.by("what was lost on the line. BAD; STATE: it is STEP 99.");
        refused(ALL_FULL, "go(1)", x -> x.go(1), STATE);
        refused(ALL_FULL, "go(99)", x -> x.go(99), STATE);
    }

    private static void oddsAreRefused() {
        Due.by("BAD; STATE: nothing hangs, or (where it is not 0 by 1 as told) more than 18 STEPS are needed.");
        Place off = new Place("an empty line", 4, 3, () -> {
            ForeRain x = busy();
            x.basket(0);
            return x;
        });
        for (int what = 0; what <= 1; what++) {
            int of = what;
            refused(NEW, "odds(0, 1, " + what + ")", x -> x.odds(0, 1, of), STATE);
            refused(off, "odds(1, 2, " + what + ")", x -> x.odds(1, 2, of), STATE);
            Place long19 = new Place("19 STEPS", 1, 1, () -> hungAtWindOne(19));
            refused(long19, "odds(1, 2, " + what + ")", x -> x.odds(1, 2, of), STATE);
            refused(long19, "odds(0, 9, " + what + ")", x -> x.odds(0, 9, of), STATE);
            Place long99 = new Place("99 STEPS", 1, 1, () -> hungAtWindOne(99));
            refused(long99, "odds(1, 9, " + what + ")", x -> x.odds(1, 9, of), STATE);
        }
    }

    private static ForeRain hungAtWindOne(int water) {
        ForeRain x = Probe.told("piece " + water + " 1 1;spot 1 1;");
        x.hang(0, 0);
        return x;
    }

    private static void dayIsFull() {
        Due.by("A DAY: how many there are. BAD; FULL.");
        for (int n = 0; n < 8; n++) {
            int day = n;
            refused(ALL_FULL, "held() of a 31st", x -> x.held(day & 1, day >> 1 & 1, day >> 2), FULL);
        }
    }

    private static void trustIsRefused() {
        Due.by("in how many it was: a fraction (STATE: it never did)");
        Place dryBox = new Place("a BOX that says dry", 0, 0, () -> {
            ForeRain x = new ForeRain();
            x.held(0, 1, 1);
            x.held(0, 0, 1);
            return x;
        });
        for (int what = 0; what <= 1; what++) {
            int of = what;
            refused(NEW, "trust(0, " + what + ")", x -> x.trust(0, of), STATE);
            refused(NEW, "trust(1, " + what + ")", x -> x.trust(1, of), STATE);
            refused(dryBox, "trust(0, " + what + ")", x -> x.trust(0, of), STATE);
            refused(dryBox, "trust(1, " + what + ")", x -> x.trust(1, of), 1);
        }
    }

    private static void backIsRefused() {
        Due.by("STATE: none was kept");
        refused(NEW, "back(0)", x -> x.back(0), STATE);
        refused(NEW, "back(1)", x -> x.back(1), STATE);
        refused(BUSY, "back(1)", x -> x.back(1), STATE);
        Place told = new Place("a text told since", 1, 0, () -> {
            ForeRain x = full();
            Probe.tell(x, "piece 1 1 1;");
            return x;
        });
        refused(told, "back(0)", x -> x.back(0), STATE);
        refused(told, "back(1)", x -> x.back(1), STATE);
    }

    private static void textIsFull() {
        Due.by("how many it has. BAD; FULL.");
        for (int n = 1; n <= 8; n++) {
            int bytes = n;
            refused(ALL_FULL, "type(0, " + n + ")", x -> x.type(0, bytes), FULL);
        }
    }

    private static void badComesFirst() {
        Due.by("Refused, and nothing changes, the first of these: BAD (a number is not as told, or there is no such thing), STATE (as told), FULL.");
        refused(ALL_FULL, "type(0, 9): FULL, too", x -> x.type(0, 9), BAD);
        refused(ALL_FULL, "type(0, 0): FULL, too", x -> x.type(0, 0), BAD);
        refused(ALL_FULL, "hang(6, 0): a PIECE is there, too", x -> x.hang(6, 0), BAD);
        refused(ALL_FULL, "hang(-1, 1): a PIECE is there, too", x -> x.hang(-1, 1), BAD);
        refused(ALL_FULL, "rack(6): 3 are there, too", x -> x.rack(6), BAD);
        refused(ALL_FULL, "rack(-1): 3 are there, too", x -> x.rack(-1), BAD);
        refused(ALL_FULL, "go(0): STEP 99, too", x -> x.go(0), BAD);
        refused(ALL_FULL, "go(100): STEP 99, too", x -> x.go(100), BAD);
        refused(ALL_FULL, "held(2, 0, 0): 30 DAYS, too", x -> x.held(2, 0, 0), BAD);
        refused(ALL_FULL, "held(0, -1, 0): 30 DAYS, too", x -> x.held(0, -1, 0), BAD);
        refused(ALL_FULL, "held(0, 0, 2): 30 DAYS, too", x -> x.held(0, 0, 2), BAD);
        refused(NEW, "odds(1, 0, 0): nothing hangs, too", x -> x.odds(1, 0, 0), BAD);
        refused(NEW, "odds(0, 1, 2): nothing hangs, too", x -> x.odds(0, 1, 2), BAD);
        refused(NEW, "odds(2, 1, 0): nothing hangs, too", x -> x.odds(2, 1, 0), BAD);
        refused(NEW, "trust(0, 2): it never did, too", x -> x.trust(0, 2), BAD);
        refused(NEW, "trust(2, 0): it never did, too", x -> x.trust(2, 0), BAD);
        refused(NEW, "back(2): none was kept, too", x -> x.back(2), BAD);
        refused(NEW, "back(-1): none was kept, too", x -> x.back(-1), BAD);
    }

    private static void stateComesAheadOfFull() {
        Due.by("the first of these");
        refused(ALL_FULL, "rack(3): it is there, and 3 are", x -> x.rack(3), STATE);
        refused(ALL_FULL, "rack(5): it is there, and 3 are", x -> x.rack(5), STATE);
    }
}
