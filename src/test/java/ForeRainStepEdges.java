/** What a STEP does, where PIECES may be, and NOW (promises 1 and 5 to 13), at the edges. */
public final class ForeRainStepEdges {
    private static final int BAD = -1, STATE = -2, FULL = -3, NONE = -9, NO = -1000000;
    private static final int RACK = 8, BASKET = 9;

    public static void main(String[] args) {
        aNewObject();
        asAtFirst();
        theSky();
        roomForAPiece();
        fromWhereverItIs();
        onTheRack();
        intoTheBasket();
        stepsTo99();
        lessDamp();
        waterAtMost();
        twiceWaterAtMost();
        rackAndBasketInAStep();
        dampIsCut();
        ageOfAPiece();
        smellsFrom12();
        dryIsWithoutWater();
        nowIsSummedUp();
        anewIsAsAtFirst();
        Due.end();
    }

    private static void aNewObject() {
        Due.by("As told; no PIECES, no SPOTS, no STEPS told.");
        ForeRain x = new ForeRain();
        for (int what = 0; what <= 5; what++) {
            Due.is("count(" + what + ")", x.count(what), 0);
            Due.is("now(" + what + ")", x.now(what), 0);
        }
        Due.is("piece(0, 0)", x.piece(0, 0), BAD);
        Due.is("spot(0, 0)", x.spot(0, 0), BAD);
        Due.is("sky(0)", x.sky(0), 0);
        Due.is("sky(99)", x.sky(99), 0);
        Due.is("clear()", x.clear(), 0);
        Due.is("day()", x.day(), 0);
        Due.is("anew()", x.anew(), 0);
        Due.is("where(1, -1)", x.where(1, -1), 0);
        Due.is("where(24, -1)", x.where(24, -1), 0);
        Due.is("order(9, -1)", x.order(9, -1), 0);
        Due.is("order(9, 0)", x.order(9, 0), NONE);
        Due.is("order(9, 5)", x.order(9, 5), NONE);
        Due.is("odds(0, 1, 0)", x.odds(0, 1, 0), STATE);
        Due.is("roomFor(1)", x.roomFor(1), NONE);
        Due.is("pegs()", x.pegs(), 0);
        Due.is("coins(0)", x.coins(0), 0);
        Due.is("coins(24)", x.coins(24), 0);
        Due.is("trace()", x.trace(), 0);
        Due.is("keep(1)", x.keep(1), 0);
        Due.is("go(99)", x.go(99), 0);
        Due.is("now(0)", x.now(0), 99);
        Due.is("go(1)", x.go(1), STATE);
        Due.is("back(1)", x.back(1), 0);
        Due.is("now(0)", x.now(0), 0);
        Due.is("another's now(0)", new ForeRain().now(0), 0);
    }

    private static void asAtFirst() {
        Due.by("STEP 0 at first, DAMP 0; all PIECES are in THE BASKET with WATER as told, AGE 0.");
        ForeRain x = Probe.told("piece 99 1 3;piece 1 1 1;spot 1 9;sun 9 24;");
        x.hang(0, 0);
        x.rack(1);
        x.go(20);
        Probe.tell(x, "piece 99 1 3;piece 1 1 1;piece 50 2 2;spot 1 9;");
        Due.is("now(0)", x.now(0), 0);
        Due.is("now(1)", x.now(1), 0);
        int[] waters = {99, 1, 50};
        for (int i = 0; i <= 2; i++) {
            Due.is("piece(" + i + ", 0)", x.piece(i, 0), waters[i]);
            Due.is("piece(" + i + ", 3)", x.piece(i, 3), 0);
            Due.is("piece(" + i + ", 4)", x.piece(i, 4), 0);
            Due.is("piece(" + i + ", 5)", x.piece(i, 5), BASKET);
        }
        Due.is("spot(0, 2)", x.spot(0, 2), NONE);
        Due.is("count(3)", x.count(3), 0);
    }

    private static void theSky() {
        Due.by("Of a STEP (0 .. 99): SUN, or 0 less RAIN. NO: BAD.");
        ForeRain x = Probe.told("sun 0 1;sun 9 1;rain 1 1;rain 9 1;sun 7 19;rain 6 1;");
        int[] skies = {0, 9, -1, -9, 7};
        for (int step = 0; step < skies.length; step++) {
            Due.is("sky(" + step + ")", x.sky(step), skies[step]);
        }
        Due.is("sky(22)", x.sky(22), 7);
        Due.is("sky(23)", x.sky(23), -6);
        Due.is("sky(24)", x.sky(24), 0);
        Due.is("sky(99)", x.sky(99), 0);
        Due.is("sky(100)", x.sky(100), NO);
        Due.is("sky(-1)", x.sky(-1), NO);
        Due.by("behind them SUN 0");
        Probe.tell(x, "sun 5 1;");
        Due.is("sky(0)", x.sky(0), 5);
        Due.is("sky(1), which was told as SUN 9", x.sky(1), 0);
        Due.is("sky(2), which was told as RAIN 1", x.sky(2), 0);
        ForeRain y = Probe.told("piece 40 1 1;spot 1 2;sun 5 24;");
        y.go(23);
        y.hang(0, 0);
        Due.is("go(1) in STEP 23", y.go(1), 7);
        Due.is("go(1) in STEP 24", y.go(1), 2);
        y.go(99);
        Due.is("sky(99) at STEP 99", y.sky(99), 0);
    }

    private static void roomForAPiece() {
        Due.by("A PIECE may be HUNG at a SPOT that has none and ROOM for it (WIDE at most)");
        for (int room = 1; room <= 9; room++) {
            int beyond = Math.min(9, room + 1);
            ForeRain x = Probe.told("piece 5 1 1;piece 5 " + room + " 1;piece 5 " + beyond + " 1;spot " + room + " 0;");
            Due.is("hang(0, 0): 1 WIDE, ROOM " + room, x.hang(0, 0), 1);
            x.basket(0);
            Due.is("hang(2, 0): " + beyond + " WIDE, ROOM " + room, x.hang(2, 0), room < 9 ? STATE : 1);
            Due.is("piece(2, 5)", x.piece(2, 5), room < 9 ? BASKET : 0);
            x.basket(2);
            Due.is("hang(1, 0): " + room + " WIDE, ROOM " + room, x.hang(1, 0), 1);
            Due.is("spot(0, 2)", x.spot(0, 2), 1);
        }
        ForeRain y = Probe.told("piece 5 1 1;piece 5 1 1;spot 9 0;");
        y.hang(0, 0);
        Due.is("hang(1, 0): ROOM for both, but one is there", y.hang(1, 0), STATE);
        Due.is("spot(0, 2)", y.spot(0, 2), 0);
    }

    private static void fromWhereverItIs() {
        Due.by("A PIECE is HUNG (from wherever it is): 1.");
        ForeRain x = Probe.told("piece 5 1 1;piece 5 1 1;" + "spot 1 0;".repeat(5));
        Due.is("hang(0, 4) from THE BASKET", x.hang(0, 4), 1);
        Due.is("hang(0, 0) from a SPOT", x.hang(0, 0), 1);
        Due.is("spot(4, 2)", x.spot(4, 2), NONE);
        Due.is("spot(0, 2)", x.spot(0, 2), 0);
        x.rack(0);
        Due.is("hang(0, 3) from THE RACK", x.hang(0, 3), 1);
        Due.is("count(3)", x.count(3), 0);
        Due.is("now(3)", x.now(3), 1);
        Due.is("hang(1, 4)", x.hang(1, 4), 1);
        Due.is("now(3)", x.now(3), 2);
        Due.is("hang(0, 4): 1 is there", x.hang(0, 4), STATE);
        Due.is("hang(1, 3): 0 is there", x.hang(1, 3), STATE);
    }

    private static void onTheRack() {
        Due.by("laid on THE RACK (3 at most)");
        ForeRain x = Probe.told("piece 5 1 1;".repeat(6) + "spot 1 0;");
        Due.is("rack(5)", x.rack(5), 1);
        Due.is("rack(0)", x.rack(0), 2);
        x.hang(3, 0);
        Due.is("rack(3) from its SPOT", x.rack(3), 3);
        Due.is("spot(0, 2)", x.spot(0, 2), NONE);
        Due.is("piece(3, 5)", x.piece(3, 5), RACK);
        Due.is("rack(1)", x.rack(1), FULL);
        Due.is("piece(1, 5)", x.piece(1, 5), BASKET);
        Due.is("count(3)", x.count(3), 3);
        x.hang(5, 0);
        Due.is("rack(1): one was HUNG", x.rack(1), 3);
        x.basket(0);
        Due.is("rack(2): one was put into THE BASKET", x.rack(2), 3);
        Due.is("rack(4)", x.rack(4), FULL);
        Due.is("rack(5) from its SPOT", x.rack(5), FULL);
        Due.is("spot(0, 2)", x.spot(0, 2), 5);
    }

    private static void intoTheBasket() {
        Due.by("A PIECE comes into THE BASKET: 1. BAD; STATE: it is there.");
        ForeRain x = Probe.told("piece 5 1 1;".repeat(6) + "spot 1 0;");
        Due.is("basket(0)", x.basket(0), STATE);
        x.hang(0, 0);
        Due.is("basket(0) from its SPOT", x.basket(0), 1);
        Due.is("piece(0, 5)", x.piece(0, 5), BASKET);
        Due.is("spot(0, 2)", x.spot(0, 2), NONE);
        x.rack(5);
        Due.is("basket(5) from THE RACK", x.basket(5), 1);
        Due.is("count(3)", x.count(3), 0);
        Due.is("basket(5) again", x.basket(5), STATE);
        Due.is("basket(6)", x.basket(6), BAD);
    }

    /** 198 WATER at the end of STEP 1, which loses 1 a STEP from then on. */
    private static ForeRain soaked() {
        ForeRain x = Probe.told("piece 99 9 1;spot 9 1;rain 9 2;");
        x.hang(0, 0);
        return x;
    }

    private static void stepsTo99() {
        Due.by("n STEPS go by (1 .. 99; to 99): what was lost on the line. BAD; STATE: it is STEP 99.");
        ForeRain x = soaked();
        Due.is("go(98)", x.go(98), 96);
        Due.is("now(0)", x.now(0), 98);
        Due.is("go(1) at 98", x.go(1), 1);
        Due.is("now(0)", x.now(0), 99);
        Due.is("go(1) at 99", x.go(1), STATE);
        Due.is("piece(0, 0)", x.piece(0, 0), 101);
        ForeRain y = soaked();
        Due.is("go(99)", y.go(99), 97);
        Due.is("now(0)", y.now(0), 99);
        Due.is("go(99) at 99", y.go(99), STATE);
        for (int more = 2; more <= 99; more += 97) {
            ForeRain z = soaked();
            z.go(98);
            Due.is("go(" + more + ") at 98", z.go(more), 1);
            Due.is("now(0)", z.now(0), 99);
            Due.is("piece(0, 0)", z.piece(0, 0), 101);
            Due.is("piece(0, 3)", z.piece(0, 3), 99);
        }
        ForeRain one = soaked();
        Due.is("go(1)", one.go(1), 0);
        Due.is("now(0)", one.now(0), 1);
        Due.is("go(0)", one.go(0), BAD);
        Due.is("go(100)", one.go(100), BAD);
        Due.is("now(0)", one.now(0), 1);
    }

    private static void lessDamp() {
        Due.by("loses ((S and WIND of its SPOT) times CLOTH) less DAMP (as the STEP begins), 0 at least, WATER at most");
        ForeRain x = Probe.told("piece 99 1 3;piece 50 1 1;piece 50 1 1;piece 50 1 1;piece 50 1 2;"
            + "spot 1 9;spot 1 5;spot 1 6;spot 1 7;spot 1 4;sun 9 1;");
        x.hang(0, 0);
        Due.is("go(1): 18 times 3", x.go(1), 54);
        Due.is("now(1)", x.now(1), 6);
        for (int i = 1; i <= 4; i++) {
            x.hang(i, i);
        }
        Due.is("go(1): 21, 0, 0, 1 and 2", x.go(1), 24);
        Due.is("piece(0, 0): 27 less 6", x.piece(0, 0), 45 - 21);
        Due.is("piece(1, 0): 5 less 6", x.piece(1, 0), 50);
        Due.is("piece(2, 0): 6 less 6", x.piece(2, 0), 50);
        Due.is("piece(3, 0): 7 less 6", x.piece(3, 0), 49);
        Due.is("piece(4, 0): 4 times 2 less 6", x.piece(4, 0), 48);
        Due.is("now(1): 3 and 3", x.now(1), 6);
        ForeRain none = Probe.told("piece 9 9 3;spot 9 0;sun 0 1;");
        none.hang(0, 0);
        Due.is("go(1): SUN 0, WIND 0", none.go(1), 0);
        Due.is("piece(0, 0)", none.piece(0, 0), 9);
    }

    private static void waterAtMost() {
        Due.by("0 at least, WATER at most");
        for (int sun = 0; sun <= 2; sun++) {
            ForeRain x = Probe.told("piece 10 1 1;spot 1 9;sun " + sun + " 1;");
            x.hang(0, 0);
            Due.is("go(1): " + (9 + sun) + " of 10", x.go(1), Math.min(10, 9 + sun));
            Due.is("piece(0, 0)", x.piece(0, 0), sun == 0 ? 1 : 0);
            x.go(1);
            Due.is("go(1): none is left", x.go(1), 0);
            Due.is("piece(0, 0)", x.piece(0, 0), 0);
        }
        ForeRain y = Probe.told("piece 1 1 3;piece 1 1 3;spot 1 9;spot 1 9;sun 9 24;");
        y.hang(0, 0);
        y.hang(1, 1);
        Due.is("go(99)", y.go(99), 2);
        Due.is("now(1): 2 of 54 were lost", y.now(1), 0);
    }

    private static void twiceWaterAtMost() {
        Due.by("under RAIN R each that hangs gets R times WIDE more, to twice WATER as told at most");
        int[] rains = {8, 9, 5, 1, 9};
        int[] wides = {1, 1, 2, 1, 9};
        int[] waters = {17, 18, 18, 10, 18};
        for (int n = 0; n < rains.length; n++) {
            ForeRain x = Probe.told("piece 9 " + wides[n] + " 1;spot 9 9;rain " + rains[n] + " 1;");
            x.hang(0, 0);
            Due.is("go(1) in RAIN", x.go(1), 0);
            Due.is("piece(0, 0): 9 and " + rains[n] + " times " + wides[n], x.piece(0, 0), waters[n]);
        }
        ForeRain y = Probe.told("piece 9 1 1;spot 1 4;sun 1 1;rain 9 3;");
        y.hang(0, 0);
        y.go(1);
        Due.is("piece(0, 0): 9 less 5", y.piece(0, 0), 4);
        y.go(1);
        Due.is("piece(0, 0): more than twice 4", y.piece(0, 0), 13);
        y.go(1);
        Due.is("piece(0, 0): no more than twice 9", y.piece(0, 0), 18);
        y.go(1);
        Due.is("piece(0, 0): no more than twice 9", y.piece(0, 0), 18);
        ForeRain most = soaked();
        most.go(2);
        Due.is("piece(0, 0): 99 told", most.piece(0, 0), 198);
        ForeRain dry = Probe.told("piece 2 3 1;spot 9 2;sun 0 1;rain 1 1;");
        dry.hang(0, 0);
        dry.go(1);
        Due.is("piece(0, 0): DRY", dry.piece(0, 0), 0);
        dry.go(1);
        Due.is("piece(0, 0): wet again", dry.piece(0, 0), 3);
    }

    private static void rackAndBasketInAStep() {
        Due.by("On THE RACK each loses 1; in THE BASKET none.");
        for (String sky : new String[] {"", "sun 9 24;", "rain 9 24;"}) {
            ForeRain x = Probe.told("piece 1 9 3;piece 2 9 3;piece 99 9 3;piece 5 9 3;spot 9 9;" + sky);
            for (int i = 0; i <= 2; i++) {
                x.rack(i);
            }
            Due.is("go(1): none hangs", x.go(1), 0);
            Due.is("piece(0, 0): 1 less", x.piece(0, 0), 0);
            Due.is("piece(1, 0): 1 less", x.piece(1, 0), 1);
            Due.is("piece(2, 0): 1 less", x.piece(2, 0), 98);
            Due.is("piece(3, 0): none", x.piece(3, 0), 5);
            x.go(1);
            Due.is("piece(0, 0): none is left", x.piece(0, 0), 0);
            Due.is("piece(1, 0): none is left", x.piece(1, 0), 0);
            Due.is("piece(2, 0): 1 less", x.piece(2, 0), 97);
        }
        ForeRain damp = Probe.told("piece 99 1 3;piece 9 1 1;spot 1 9;sun 9 1;");
        damp.hang(0, 0);
        damp.rack(1);
        damp.go(2);
        Due.is("piece(1, 0): DAMP 6 does not keep it wet", damp.piece(1, 0), 7);
    }

    private static ForeRain losing(int lost) {
        ForeRain x = Probe.told("piece 99 1 1;spot 1 " + Math.min(9, lost) + ";sun " + Math.max(0, lost - 9) + " 1;");
        x.hang(0, 0);
        Due.is("go(1)", x.go(1), lost);
        return x;
    }

    private static void dampIsCut() {
        Due.by("DAMP becomes half of what it was (cut) and an eighth (cut) of all that was lost on the line.");
        Due.is("now(1): 7 lost", losing(7).now(1), 0);
        Due.is("now(1): 8 lost", losing(8).now(1), 1);
        Due.is("now(1): 15 lost", losing(15).now(1), 1);
        Due.is("now(1): 16 lost", losing(16).now(1), 2);
        ForeRain x = Probe.told("piece 99 1 3;spot 1 9;sun 9 1;");
        x.hang(0, 0);
        x.go(1);
        x.basket(0);
        int[] damps = {6, 3, 1, 0, 0};
        for (int n = 0; n < damps.length; n++) {
            Due.is("now(1), halved " + n + " times", x.now(1), damps[n]);
            x.go(1);
        }
        ForeRain y = Probe.told("piece 99 1 3;spot 1 4;sun 4 1;sun 1 1;");
        y.hang(0, 0);
        y.go(1);
        Due.is("now(1): 24 lost", y.now(1), 3);
        Due.is("go(1): 15 less 3", y.go(1), 12);
        Due.is("now(1): each is cut, 1 and 1", y.now(1), 2);
        ForeRain two = Probe.told("piece 99 1 1;piece 99 1 1;piece 9 1 1;spot 1 4;spot 1 4;");
        two.hang(0, 0);
        two.hang(1, 1);
        two.go(1);
        Due.is("now(1): 4 and 4 lost, an eighth of all", two.now(1), 1);
        ForeRain rack = Probe.told("piece 99 1 1;piece 9 1 1;piece 9 1 1;piece 9 1 1;spot 1 7;");
        rack.hang(0, 0);
        rack.rack(1);
        rack.rack(2);
        rack.rack(3);
        Due.is("go(1): not on THE RACK", rack.go(1), 7);
        Due.is("now(1): not on THE RACK", rack.now(1), 0);
        ForeRain rain = Probe.told("piece 99 9 3;spot 9 9;sun 9 1;rain 9 2;");
        rain.hang(0, 0);
        rain.go(1);
        Due.is("now(1)", rain.now(1), 6);
        rain.go(1);
        Due.is("now(1): in RAIN half", rain.now(1), 3);
    }

    private static void ageOfAPiece() {
        Due.by("AGE of each that has WATER left is one more; of one without WATER it is 0.");
        ForeRain x = Probe.told("piece 2 1 1;piece 1 1 1;piece 3 1 1;spot 1 1;sun 0 3;rain 1 2;");
        x.hang(0, 0);
        x.rack(1);
        int[] hung = {1, 0, 0, 1, 2, 3};
        for (int n = 0; n < hung.length; n++) {
            x.go(1);
            Due.is("piece(0, 3) behind " + (n + 1), x.piece(0, 3), hung[n]);
            Due.is("piece(1, 3) behind " + (n + 1), x.piece(1, 3), 0);
            Due.is("piece(2, 3) behind " + (n + 1), x.piece(2, 3), n + 1);
        }
        x.go(99);
        Due.is("piece(2, 3) behind 99", x.piece(2, 3), 99);
        Due.is("piece(0, 3) behind 99", x.piece(0, 3), 0);
    }

    private static void smellsFrom12() {
        Due.by("It SMELLS from AGE 12 on (till anew()).");
        ForeRain x = Probe.told("piece 11 1 1;piece 12 1 1;piece 13 1 1;piece 99 1 1;");
        x.rack(0);
        x.rack(1);
        x.rack(2);
        x.go(11);
        Due.is("piece(2, 3)", x.piece(2, 3), 11);
        Due.is("now(5): AGE 11", x.now(5), 0);
        x.go(1);
        Due.is("piece(0, 4): DRY at 11", x.piece(0, 4), 0);
        Due.is("piece(1, 4): DRY at 12", x.piece(1, 4), 0);
        Due.is("piece(2, 4): AGE 12", x.piece(2, 4), 1);
        Due.is("piece(3, 4): AGE 12", x.piece(3, 4), 1);
        x.go(1);
        Due.is("piece(2, 3): DRY", x.piece(2, 3), 0);
        Due.is("piece(2, 4): DRY, and SMELLS", x.piece(2, 4), 1);
        x.go(80);
        Due.is("piece(2, 4): till anew()", x.piece(2, 4), 1);
        Due.is("now(5)", x.now(5), 2);
        x.anew();
        Due.is("now(5) behind anew()", x.now(5), 0);
        x.go(11);
        Due.is("now(5): AGE 11 again", x.now(5), 0);
        x.go(1);
        Due.is("now(5): AGE 12 again", x.now(5), 4);
        ForeRain again = Probe.told("piece 11 1 1;spot 1 1;sun 0 11;rain 9 1;");
        again.hang(0, 0);
        again.go(22);
        Due.is("piece(0, 3): dried once, AGE counts anew", again.piece(0, 3), 0);
        Due.is("piece(0, 4)", again.piece(0, 4), 0);
    }

    private static void dryIsWithoutWater() {
        Due.by("DRY: a PIECE without WATER.");
        ForeRain x = Probe.told("piece 1 1 1;piece 2 1 1;piece 1 1 1;spot 1 1;");
        x.rack(0);
        x.hang(1, 0);
        Due.is("now(4): WATER 1, 2, 1", x.now(4), 0);
        x.go(1);
        Due.is("now(4): WATER 0, 1, 1", x.now(4), 1);
        x.go(1);
        Due.is("now(4): WATER 0, 0, 1", x.now(4), 2);
        x.basket(0);
        x.rack(1);
        Due.is("now(4): wherever it is", x.now(4), 2);
    }

    private static void nowIsSummedUp() {
        Due.by("0 STEP, 1 DAMP, 2 WATER of all, 3 how many hang, 4 how many are DRY, 5 how many SMELL. BAD.");
        ForeRain x = Probe.told("piece 99 9 1;".repeat(6) + "spot 9 9;".repeat(5) + "rain 9 2;");
        for (int k = 0; k <= 4; k++) {
            x.hang(k, k);
        }
        x.rack(5);
        Due.is("now(2)", x.now(2), 6 * 99);
        Due.is("now(3)", x.now(3), 5);
        x.go(2);
        Due.is("now(2): most of all", x.now(2), 5 * 198 + 97);
        x.go(10);
        Due.is("now(5)", x.now(5), 6);
        Due.is("now(4)", x.now(4), 0);
        x.go(99);
        Due.is("now(0)", x.now(0), 99);
        Due.is("now(2)", x.now(2), 0);
        Due.is("now(4)", x.now(4), 6);
        Due.is("now(5)", x.now(5), 6);
    }

    private static void anewIsAsAtFirst() {
        Due.by("NOW is as at first: the STEP it was.");
        Due.is("anew() of a new object", new ForeRain().anew(), 0);
        for (int steps : new int[] {1, 24, 99}) {
            Probe.World gone = () -> {
                ForeRain x = Probe.told("piece 99 1 3;piece 50 1 1;piece 9 1 1;spot 1 9;sun 9 3;");
                x.held(1, 1, 0);
                x.mark(2, 1);
                Probe.type(x, "sun 1 1;");
                return x;
            };
            Probe.unchanged("acts, go(" + steps + ") and anew()", gone, x -> {
                x.hang(0, 0);
                x.rack(1);
                x.go(steps);
                return x.anew();
            }, steps);
        }
        ForeRain kept = Probe.told("piece 9 1 1;spot 1 1;");
        kept.hang(0, 0);
        kept.go(3);
        kept.keep(0);
        kept.anew();
        Due.is("anew() again", kept.anew(), 0);
        Due.is("back(0): only what is read anew makes IMAGES go", kept.back(0), 3);
        Due.is("piece(0, 0)", kept.piece(0, 0), 6);
    }
}
